/** What the Terms say of an e: its units, what is within what, and what comes of it. */
final class FormulaEdges {
    private static final Due DUE = EdgesTest.DUE;
    private static final int LEAST = Integer.MIN_VALUE;
    private static final int MOST = Integer.MAX_VALUE;
    // As text: the least int, and -1.
    private static final String LEAST_TEXT = "(8192*8192*32)";
    private static final String LESS_ONE = "(0-1)";

    static void run() {
        grammar();
        oneRelation();
        unitsInOne();
        unitsInAll();
        nested();
        tooManyPlace();
        wrapping();
        quotients();
        rests();
        byNothing();
        relations();
        truths();
        precedence();
        untoldWorth();
        facts();
        longFormula();
    }

    private static void grammar() {
        DUE.sentence(0, "e = both {or both}. both = one {and one}. one = not one");
        TextEdges.faultAt("worth;", 2, 5);
        TextEdges.faultAt("worth or 1;", 2, 6);
        TextEdges.faultAt("worth and 1;", 2, 6);
        TextEdges.faultAt("worth 1 or;", 2, 10);
        TextEdges.faultAt("worth 1 and;", 2, 11);
        TextEdges.faultAt("worth 1 or and 1;", 2, 11);
        TextEdges.faultAt("worth 1 and or 1;", 2, 12);
        TextEdges.faultAt("worth not;", 2, 9);
        TextEdges.faultAt("worth not and 1;", 2, 10);
        TextEdges.faultAt("worth 1 not 1;", 2, 8);
        TextEdges.sound("worth not 1 or not 2 and not not 3;");
        DUE.sentence(0, "sum = term {(+ | -) term}. term = unit {(* | / | %) unit}. unit = N | area | icing | sweet | broken | long | minute | ( e ).");
        TextEdges.faultAt("worth -1;", 2, 6);
        TextEdges.faultAt("worth *1;", 2, 6);
        TextEdges.faultAt("worth 1+;", 2, 8);
        TextEdges.faultAt("worth 1*;", 2, 8);
        TextEdges.faultAt("worth 1++1;", 2, 8);
        TextEdges.faultAt("worth 1*-1;", 2, 8);
        TextEdges.faultAt("worth 1+not 1;", 2, 8);
        TextEdges.faultAt("worth 2*not 1;", 2, 8);
        TextEdges.faultAt("worth ();", 2, 7);
        TextEdges.faultAt("worth (1;", 2, 8);
        TextEdges.faultAt("worth (1", 2, 8);
        TextEdges.faultAt("worth 1);", 2, 7);
        TextEdges.faultAt("worth (1));", 2, 9);
        TextEdges.faultAt("worth (1)(2);", 2, 9);
        TextEdges.faultAt("worth 1 area;", 2, 8);
        TextEdges.faultAt("worth pace;", 2, 6);
        TextEdges.faultAt("worth cells;", 2, 6);
        TextEdges.sound("worth area+icing-sweet*broken/long%minute+(1);slip area+icing-sweet*broken/long%minute+(1);");
    }

    private static void oneRelation() {
        DUE.sentence(0, "sum [(< | > | =) sum]");
        TextEdges.sound("worth 1<2;");
        TextEdges.sound("worth (1<2)=(3>2);");
        TextEdges.sound("worth 1<2 and 2<3 or 3<4;");
        TextEdges.faultAt("worth 1<2<3;", 2, 9);
        TextEdges.faultAt("worth 1=2>3;", 2, 9);
        TextEdges.faultAt("worth 1<=2;", 2, 8);
        TextEdges.faultAt("worth 1<;", 2, 8);
        TextEdges.faultAt("worth <1;", 2, 6);
        TextEdges.faultAt("worth 1<not 2;", 2, 8);
    }

    private static void unitsInOne() {
        DUE.sentence(0, "30 in one e");
        String thirty = "1" + "+1".repeat(29);
        DUE.is("thirty", Due.cake("worth " + thirty + ";").about(11), 30);
        DUE.is("thirty for slip", Due.cake("slip " + thirty + ";").about(11), 30);
        TextEdges.faultAt("worth " + thirty + "+1;", 2, 66);
        TextEdges.faultAt("slip " + thirty + "*area;", 2, 65);
        TextEdges.faultAt("worth " + thirty + " or icing;", 2, 69);
        // A unit ( e ) is one more than those in it.
        DUE.is("((1)+2)", Due.cake("worth ((1)+2);").about(11), 4);
        TextEdges.sound("worth " + "(1)+".repeat(14) + "(1);");
        TextEdges.faultAt("worth " + "(1)+".repeat(15) + "1;", 2, 66);
        TextEdges.sound("worth (" + "1+".repeat(28) + "1);");
        TextEdges.faultAt("worth (" + "1+".repeat(29) + "1);", 2, 65);
    }

    private static void unitsInAll() {
        DUE.sentence(0, "60 units in all");
        String thirty = "2" + "-1".repeat(29);
        ThreeTiers x = Due.cake("slip " + thirty + ";worth " + thirty + ";tier a 2 by 1 high 1;guest g wants 1;");
        DUE.is("sixty", x.about(11), 60);
        DUE.is("worth", x.worth(0, 0), -27);
        DUE.is("slip", x.slip(0, 0, 1), 0);
        TextEdges.faultAt("slip " + thirty + ";worth " + thirty + "+1;", 2, 5 + 59 + 1 + 6 + 60);
        // Numbers in other lines are no units.
        DUE.is("no units", Due.cake("tier a 2 by 1 high 1;guest g wants 1 sweet 2 comes 3;pace 4;draw 5;").about(11), 0);
    }

    private static void nested() {
        DUE.sentence(0, "(a unit ( e ), or a one behind not, within 6 others at most)");
        TextEdges.sound("worth " + "(".repeat(7) + "1" + ")".repeat(7) + ";");
        TextEdges.faultAt("worth " + "(".repeat(8) + "1" + ")".repeat(8) + ";", 2, 13);
        TextEdges.sound("worth " + "not ".repeat(7) + "1;");
        TextEdges.faultAt("worth " + "not ".repeat(8) + "1;", 2, 34);
        TextEdges.sound("worth " + "not (".repeat(3) + "not 1" + ")".repeat(3) + ";");
        TextEdges.faultAt("worth " + "not (".repeat(3) + "not (1" + ")".repeat(4) + ";", 2, 25);
        TextEdges.faultAt("worth " + "not (".repeat(3) + "not not 1" + ")".repeat(3) + ";", 2, 25);
        TextEdges.sound("worth " + "(".repeat(6) + "not 1" + ")".repeat(6) + ";");
        TextEdges.faultAt("worth " + "(".repeat(7) + "not 1" + ")".repeat(7) + ";", 2, 13);
        // Those that are closed again are around nothing.
        TextEdges.sound("worth ((1))+((2))+((3))+((4))+((5));");
        TextEdges.sound("worth " + "(".repeat(6) + "(1)+(2)*(3)" + ")".repeat(6) + ";");
        TextEdges.sound("worth not (not 1 and not 2) and not not not not not not not 3;");
    }

    private static void tooManyPlace() {
        DUE.sentence(0, "a unit too many, what is within 7 others: at its first TOKEN, or the not)");
        String thirty = "1" + "+1".repeat(29);
        TextEdges.faultAt("worth " + thirty + "+ (1);", 2, 67);
        TextEdges.faultAt("worth " + thirty + "+\nminute;", 2, 67);
        TextEdges.faultAt("worth 1" + "+1".repeat(28) + "+(7);", 2, 6 + 57 + 2);
        TextEdges.faultAt("worth " + "( ".repeat(8) + "1", 2, 20);
        TextEdges.faultAt("worth " + "(".repeat(7) + " not $", 2, 14);
        TextEdges.faultAt("worth " + "not ".repeat(7) + "(1)", 2, 34);
        TextEdges.faultAt("worth " + "not ".repeat(7) + " not 1", 2, 35);
    }

    /** To a guest of sweet 3 of a piece of AREA 24 and ICING 10. */
    private static int worth(String formula) {
        return Due.cake("tier a 4 by 1 high 6;guest g wants 1 sweet 3;worth " + formula + ";").worth(0, 0);
    }

    private static void worth(String formula, int want) {
        DUE.is("worth " + formula, worth(formula), want);
    }

    private static void wrapping() {
        DUE.sentence(0, "ints, wrapping");
        worth(LEAST_TEXT, LEAST);
        worth(LEAST_TEXT + "-1", MOST);
        worth("(" + LEAST_TEXT + "-1)+1", LEAST);
        worth("0-" + LEAST_TEXT, LEAST);
        worth(LEAST_TEXT + "*2", 0);
        worth(LEAST_TEXT + "+" + LEAST_TEXT, 0);
        worth("9999*9999*9999", (int) (9999L * 9999 * 9999));
        worth("9999*9999*9999*9999", (int) (9999L * 9999 * 9999 * 9999));
        worth("0-9999*9999*30", (int) -(9999L * 9999 * 30));
        worth(LEAST_TEXT + "<0", 1);
        worth(LEAST_TEXT + "-1>0", 1);
    }

    private static void quotients() {
        DUE.sentence(0, "/ cut");
        worth("7/2", 3);
        worth("(0-7)/2", -3);
        worth("7/(0-2)", -3);
        worth("(0-7)/(0-2)", 3);
        worth("1/2", 0);
        worth("(0-1)/2", 0);
        worth("8/2", 4);
        worth(LEAST_TEXT + "/" + LESS_ONE, LEAST);
        worth(LEAST_TEXT + "/1", LEAST);
    }

    private static void rests() {
        DUE.sentence(0, "% its rest");
        worth("7%2", 1);
        worth("(0-7)%2", -1);
        worth("7%(0-2)", 1);
        worth("(0-7)%(0-2)", -1);
        worth("8%2", 0);
        worth("1%2", 1);
        worth(LEAST_TEXT + "%" + LESS_ONE, 0);
        worth(LEAST_TEXT + "%10", -8);
    }

    private static void byNothing() {
        DUE.sentence(0, "both by 0: 0");
        worth("7/0", 0);
        worth("7%0", 0);
        worth("0/0", 0);
        worth("0%0", 0);
        worth("5/(sweet-3)", 0);
        worth("5%(area-24)", 0);
        worth(LEAST_TEXT + "/0", 0);
        worth(LEAST_TEXT + "%0", 0);
        worth("1+6/0", 1);
        worth("9%0+2", 2);
    }

    private static void relations() {
        DUE.sentence(0, "relations, and, or, not are 1 or 0");
        worth("1<2", 1);
        worth("2<2", 0);
        worth("3<2", 0);
        worth("1>2", 0);
        worth("2>2", 0);
        worth("3>2", 1);
        worth("1=2", 0);
        worth("2=2", 1);
        worth("3=2", 0);
        worth("(0-1)<0", 1);
        worth("(0-1)>0", 0);
        worth("5 and 7", 1);
        worth("5 or 7", 1);
        worth("not 0", 1);
        worth("not 7", 0);
        worth("not not 7", 1);
        worth("(1<2)+(2>1)+(5 and 6)+(8 or 9)+(not 0)", 5);
    }

    private static void truths() {
        DUE.sentence(0, "of what is not 0");
        worth("0 and 0", 0);
        worth("0 and 2", 0);
        worth("2 and 0", 0);
        worth("2 and 4", 1);
        worth("0 or 0", 0);
        worth("0 or 2", 1);
        worth("2 or 0", 1);
        worth("(0-1) and (0-2)", 1);
        worth("(0-1) or 0", 1);
        worth("not (0-1)", 0);
        worth(LEAST_TEXT + " and 1", 1);
        worth("not " + LEAST_TEXT, 0);
    }

    private static void precedence() {
        DUE.sentence(0, "e = both {or both}.");
        worth("1 or 0 and 0", 1);
        worth("0 and 0 or 1", 1);
        worth("0 and (0 or 1)", 0);
        worth("not 0 and 0", 0);
        worth("not (0 and 0)", 1);
        worth("not 1=2", 1);
        worth("not 1 or 1", 1);
        worth("1+1=2", 1);
        worth("2=1+1", 1);
        worth("2+3*4", 14);
        worth("2*3+4", 10);
        worth("10-4-3", 3);
        worth("10-(4-3)", 9);
        worth("100/7/2", 7);
        worth("100/(7/2)", 33);
        worth("100%7*3", 6);
        worth("3*100%7", 6);
        worth("7*3/2", 10);
        worth("1<2 and 3>2", 1);
    }

    private static void untoldWorth() {
        DUE.sentence(0, "what comes of worth (AREA, if it is not told)");
        ThreeTiers x = Due.cake("tier a 3 by 2 high 4;tier b 1 by 1 high 1;guest g wants 1 sweet 9;");
        DUE.row("worth", piece -> x.worth(0, piece), 24, 1);
        DUE.is("told as 0", Due.cake("tier a 3 by 2 high 4;guest g wants 1;worth 0;").worth(0, 0), 0);
    }

    private static void facts() {
        DUE.sentence(0, "by area, icing, sweet (the GUEST's), broken (1 or 0), long 0, minute (0 at first;");
        String[] words = {"area", "icing", "sweet", "broken", "long", "minute"};
        int[] first = {24, 10, 3, 0, 0, 0};
        int[] behind = {6, 3, 3, 1, 0, 60};
        for (int i = 0; i < words.length; i++) {
            ThreeTiers x = Due.cake("tier a 4 by 1 high 6;guest h wants 1 sweet 9;guest g wants 1 sweet 3;slip long+99;pace 60;worth " + words[i] + ";");
            DUE.is(words[i], x.worth(1, 0), first[i]);
            DUE.is("slip of it", x.slip(0, 0, 3), 100);
            DUE.is(words[i] + " behind a slip", x.worth(1, 0), first[i]);
            x.cut(0, 0, 3);
            DUE.is(words[i] + " of what broke", x.worth(1, 1), behind[i]);
        }
    }

    private static void longFormula() {
        DUE.sentence(0, "30 in one e (a unit ( e ), or a one behind not, within 6 others at most)");
        // As many steps as an e can have: 30 units, each behind seven nots.
        String nots = "not ".repeat(7);
        worth(nots + "0" + (" and " + nots + "0").repeat(29), 1);
        worth(nots + "0" + (" and " + nots + "0").repeat(28) + " and " + nots + "1", 0);
        worth(nots + "1" + (" or " + nots + "1").repeat(28) + " or " + nots + "0", 1);
        worth("area" + "*1+0".repeat(14) + "-1", 23);
        // As deep as an e can be, with as much waiting as can be.
        worth("1+(1+(1+(1+(1+(1+(1+(1*2+3<4 or 5 and 6)))))))", 8);
    }

    private FormulaEdges() {
    }
}
