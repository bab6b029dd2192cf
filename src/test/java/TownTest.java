/** Promises 1 to 7: the town, its text, and what is told of it. */
public final class TownTest {
    private static final int NONE = GiltCockcrow.NONE;
    private static final int UNKNOWN = GiltCockcrow.UNKNOWN;
    private static final int OUTSIDE = GiltCockcrow.OUTSIDE;
    private static final int NOT = GiltCockcrow.NOT;
    private static final int FULL = GiltCockcrow.FULL;

    private TownTest() {
    }

    public static void main(String[] args) {
        promise1NewObject();
        promise2Feed();
        promise3Town();
        promise3WhatATownEnds();
        promise3WhatAFaultLeaves();
        promise3NoTown();
        promise4Fault();
        promise4FaultOfTheLatest();
        promise5Told();
        promise5CoverAndFullest();
        promise6Person();
        promise7OnLayer();
        Due.end();
    }

    private static void promise1NewObject() {
        GiltCockcrow x = new GiltCockcrow();
        int[] wants = {0, 0, 0, 0, 0, 0, 0, 0, 0, 0, NONE, 0, 0, 0, 0, 0};
        for (int what = 0; what < wants.length; what++) {
            Due.due("1 told(" + what + ")", x.told(what), wants[what]);
        }
        Due.due("1 fault()", x.fault(), NONE);
        Due.due("1 undo()", x.undo(), NOT);
        Due.due("1 person(0, 0)", x.person(0, 0), UNKNOWN);
        Due.due("1 onLayer(0)", x.onLayer(0), UNKNOWN);
        Due.due("1 goBack(0)", x.goBack(0), NOT);
        Due.due("1 judge()", x.judge(), NONE);
        Due.due("1 tear()", x.tear(), 0);
        Due.due("1 seed(7)", x.seed(7), 0);
    }

    private static void promise2Feed() {
        GiltCockcrow x = new GiltCockcrow();
        Due.due("2 feed(-1)", x.feed(-1), OUTSIDE);
        Due.due("2 feed(256)", x.feed(256), OUTSIDE);
        Due.due("2 told(3)", x.told(3), 0);
        Due.due("2 feed(0)", x.feed(0), 1);
        Due.due("2 feed(255)", x.feed(255), 2);
        for (int i = 3; i <= 240; i++) {
            Due.due("2 feed(32)", x.feed(32), i);
        }
        Due.due("2 feed(32) at 240", x.feed(32), FULL);
        Due.due("2 feed(256) at 240", x.feed(256), OUTSIDE);
        Due.due("2 told(3) at 240", x.told(3), 240);
        Due.due("2 town()", x.town(), -11);
        Due.due("2 told(3) behind town()", x.told(3), 0);
        Due.due("2 feed(110)", x.feed(110), 1);
    }

    private static void promise3Town() {
        String[] texts = {
            "n2 0;", "n9 8;", Due.TOWN, "n002 001;p004 001 009;", "  n  2  0 ; p 0  1  9 ; m 1 , 9 ;  ",
            "n2 0;m1,2,3,4,5,6,7,8,9,1,2,3;", "n2 0;m3;p0 0 0;",
            "n2 0;m3;p0 0 0;p1 1 1;p2 0 2;p3 1 3;p4 0 4;p0 1 5;p0 0 6;p0 1 7;",
        };
        int[] wants = {0, 0, 6, 1, 1, 0, 1, 8};
        for (int i = 0; i < texts.length; i++) {
            GiltCockcrow x = new GiltCockcrow();
            Due.due("3 town() of " + texts[i], Due.townOf(x, texts[i]), wants[i]);
            Due.due("3 fault() of " + texts[i], x.fault(), NONE);
            Due.due("3 told(3) of " + texts[i], x.told(3), 0);
        }
        GiltCockcrow x = Due.in("  n  2  1 ; p 3  1  9 ; m 1 , 9 ;  ");
        Due.due("3 N", x.told(0), 2);
        Due.due("3 S", x.told(1), 1);
        Due.due("3 KIND", x.person(0, 0), 3);
        Due.due("3 LAYERS", x.person(0, 1), 2);
        Due.due("3 EAR", x.person(0, 2), 9);
        Due.due("3 LIGHT of DAY 0", x.told(5), 1);
        x.dawn(1);
        Due.due("3 LIGHT of DAY 1", x.told(5), 9);
        x.dawn(1);
        Due.due("3 LIGHT of DAY 2", x.told(5), 1);
        GiltCockcrow y = Due.in("n2 1;");
        Due.due("3 LIGHT untold", y.told(5), 5);
        y.dawn(1);
        Due.due("3 LIGHT untold, DAY 1", y.told(5), 5);
        Due.townOf(y, "n2 1;m9,8;");
        Due.due("3 LIGHT of another town", y.told(5), 9);
        Due.townOf(y, "n2 1;");
        Due.due("3 LIGHT untold again", y.told(5), 5);
        Due.due("3 a fault behind lights", Due.townOf(y, "n2 1;m7;x"), -11);
        Due.due("3 LIGHT as it was", y.told(5), 5);
        Due.due("3 lights behind a fault", Due.townOf(y, "n2 1;m4;"), 0);
        Due.due("3 LIGHT", y.told(5), 4);
    }

    private static void promise3WhatATownEnds() {
        GiltCockcrow x = busy();
        Due.due("3 town() again", Due.townOf(x, "n3 1;p2 1 4;p0 2 9;"), 2);
        int[] wants = {3, 1, 2, 0, 0, 5, 0, 0, 0, 3, 1, 0, 0, 1, 0, 0};
        for (int what = 0; what < wants.length; what++) {
            Due.due("3 told(" + what + ") of the new town", x.told(what), wants[what]);
        }
        Due.due("3 HEARD", x.person(1, 3), 0);
        Due.due("3 EAR", x.person(0, 2), 4);
        Due.due("3 undo()", x.undo(), NOT);
        Due.due("3 goBack(0)", x.goBack(0), NOT);
        Due.due("3 goBack(1)", x.goBack(1), NOT);
        Due.due("3 the seed stays", x.seed(1), 77);
        Due.due("3 person(2, 0)", x.person(2, 0), UNKNOWN);
        Due.due("3 onLayer(3)", x.onLayer(3), UNKNOWN);
        Due.due("3 the same text again", Due.townOf(x, "n3 1;p2 1 4;p0 2 9;"), 2);
    }

    private static void promise3WhatAFaultLeaves() {
        GiltCockcrow x = busy();
        String before = Due.all(x);
        Due.due("3 town() with a fault", Due.townOf(x, "n3 1;p2 1 4;p0 3 9;"), -12);
        Due.due("3 fault()", x.fault(), 15);
        String behind = Due.all(x).replace("fault 15", "fault -1");
        Due.dueTrue("3 all else is as it was: " + before + " / " + behind, before.equals(behind));
        Due.due("3 undo() behind a fault", x.undo(), 1);
        Due.due("3 goBack(0) behind a fault", x.goBack(0), 1);
    }

    private static void promise3NoTown() {
        String[] texts = {"", " ", "     "};
        for (String text : texts) {
            GiltCockcrow x = busy();
            Due.due("3 town() of blanks", Due.townOf(x, text), 0);
            Due.due("3 fault() of blanks", x.fault(), NONE);
            int[] wants = {0, 0, 0, 0, 0, 0, 0, 0, 0, 0, NONE, 0, 0, 0, 0, 0};
            for (int what = 0; what < wants.length; what++) {
                Due.due("3 told(" + what + ") without a town", x.told(what), wants[what]);
            }
            Due.due("3 person(0, 1) without a town", x.person(0, 1), UNKNOWN);
            Due.due("3 onLayer(0) without a town", x.onLayer(0), UNKNOWN);
            Due.due("3 dawn(1) without a town", x.dawn(1), NOT);
            Due.due("3 market(NONE) without a town", x.market(NONE), 0);
            Due.due("3 goBack(0) without a town", x.goBack(0), NOT);
            Due.due("3 the seed stays", x.seed(0), 77);
        }
    }

    private static void promise4Fault() {
        String twelve = "n2 0;m1,1,1,1,1,1,1,1,1,1,1,1";
        String eight = "n2 0;p0 0 0;p0 0 0;p0 0 0;p0 0 0;p0 0 0;p0 0 0;p0 0 0;p0 0 0;";
        Object[][] rows = {
            // 1: it cannot stand there
            {"x", 1, 0}, {"p0 0 0;", 1, 0}, {"m1;", 1, 0}, {"7", 1, 0}, {";", 1, 0}, {"  p", 1, 2}, {"N2 0;", 1, 0},
            {"n", 1, 1}, {"n  ", 1, 3}, {"n2", 1, 2}, {"n2 ", 1, 3}, {"n2 0", 1, 4}, {"n2 0  ", 1, 6}, {"n2;", 1, 2},
            {"n2,0;", 1, 2}, {"n;", 1, 1}, {"n2 0 0;", 1, 5}, {"n2 0 12345;", 1, 5}, {"n2 n", 1, 3}, {"n2 0n", 1, 4},
            {"n2 0;;", 1, 5}, {"n2 0;x", 1, 5}, {"n2 0;5", 1, 5}, {"n2 0;p", 1, 6}, {"n2 0;p0 0;", 1, 9},
            {"n2 0;p0 0 0", 1, 11}, {"n2 0;p0,0 0;", 1, 7}, {"n2 0;p0 0 0,", 1, 11}, {"n2 0;pp", 1, 6},
            {"n2 0;m;", 1, 6}, {"n2 0;m1", 1, 7}, {"n2 0;m1,", 1, 8}, {"n2 0;m1,;", 1, 8}, {"n2 0;m1 2;", 1, 8},
            {"n2 0;m,1;", 1, 6}, {twelve + ",1;", 1, 29}, {twelve + " , 1;", 1, 30}, {twelve + ",0;", 1, 29},
            {"n2\t0;", 1, 2}, {"n2 0;" + (char) 255, 1, 5}, {"n2 0;" + (char) 0, 1, 5}, {"n-2 0;", 1, 1},
            // 2: numbers
            {"n1 0;", 2, 1}, {"n10 0;", 2, 1}, {"n0 0;", 2, 1}, {"n 1", 2, 2}, {"n1", 2, 1}, {"n1x", 2, 1},
            {"n20;", 2, 1}, {"n0002 0;", 2, 1}, {"n2 0000;", 2, 3}, {"n4294967298 0;", 2, 1}, {"n2 2;", 2, 3}, {"n9 9;", 2, 3},
            {"n2  10", 2, 4}, {"n2 0;p5 0 0;", 2, 6}, {"n2 0;p0 2 0;", 2, 8}, {"n2 0;p0 0 10;", 2, 10},
            {"n2 0;p0 0000 0;", 2, 8}, {"n2 0;p00 0;", 1, 10}, {"n2 0;m0;", 2, 6}, {"n2 0;m10;", 2, 6},
            {"n2 0;m1,0;", 2, 8}, {"n2 0;m1, 11,", 2, 9}, {"n2 0;m1111;", 2, 6}, {"n5 3;p1 5 5;", 2, 8}, {"n2 0;p9 9 99;", 2, 6},
            // 3: once too often
            {"n2 0;n", 3, 5}, {"n2 0; n2 0;", 3, 6}, {"n2 0;m1;m", 3, 8}, {"n2 0;m1;p0 0 0;m1;", 3, 15},
            {eight + "p", 3, 61}, {eight + " p0 0 0;", 3, 62}, {eight + "n", 3, 61}, {eight + "m1;m", 3, 64},
            // of several, the first
            {"n2 5x", 2, 3}, {"n2 0;p7 7", 2, 6}, {"n2 0;n2 9;", 3, 5}, {"n2 0;x n", 1, 5},
        };
        for (Object[] row : rows) {
            GiltCockcrow x = new GiltCockcrow();
            int answer = Due.townOf(x, (String) row[0]);
            Due.due("3 town() of " + row[0], answer, -10 - (Integer) row[1]);
            Due.due("4 fault() of " + row[0], x.fault(), (Integer) row[2]);
            Due.due("3 told(3) behind " + row[0], x.told(3), 0);
            Due.due("3 told(0) behind " + row[0], x.told(0), 0);
        }
        Due.due("3 twelve lights are fine", Due.townOf(new GiltCockcrow(), twelve + ";"), 0);
        Due.due("3 eight persons are fine", Due.townOf(new GiltCockcrow(), eight), 8);
    }

    private static void promise4FaultOfTheLatest() {
        GiltCockcrow x = new GiltCockcrow();
        Due.due("4 fault() ahead of any", x.fault(), NONE);
        Due.townOf(x, "n2 0;x");
        Due.due("4 fault()", x.fault(), 5);
        Due.feedAll(x, "n2");
        Due.due("4 fault() stays while letters come", x.fault(), 5);
        Due.feedAll(x, " 0;");
        Due.due("4 town()", x.town(), 0);
        Due.due("4 fault() behind a good one", x.fault(), NONE);
        // letters at the end of the longest text
        StringBuilder text = new StringBuilder("n2 0;");
        while (text.length() < 240) {
            text.append(' ');
        }
        Due.due("4 240 letters", Due.townOf(x, text.toString()), 0);
        text.setLength(239);
        Due.due("4 the last letter", Due.townOf(x, text + "p"), -11);
        Due.due("4 its fault is at the end", x.fault(), 240);
        text.setLength(0);
        while (text.length() < 236) {
            text.append(' ');
        }
        Due.due("4 a ';' is missing at 240", Due.townOf(x, text + "n2 0"), -11);
        Due.due("4 it is missing at the end", x.fault(), 240);
        Due.due("4 a longer text", Due.townOf(x, "n2 0;p0 0 7;m1,2;"), 1);
        Due.due("4 its letters are gone: ';'", Due.townOf(x, "n2 0"), -11);
        Due.due("4 fault()", x.fault(), 4);
        Due.due("4 its letters are gone: a figure", Due.townOf(x, "n2 0;p0 0 "), -11);
        Due.due("4 fault()", x.fault(), 10);
        Due.due("4 its letters are gone: the clauses", Due.townOf(x, "n2 0;"), 0);
    }

    private static void promise5Told() {
        GiltCockcrow x = Due.in(Due.TOWN);
        Due.due("5 told(-1)", x.told(-1), OUTSIDE);
        Due.due("5 told(16)", x.told(16), OUTSIDE);
        Due.feedAll(x, "abc");
        x.shadow(1, 0);
        x.shadow(1, 0);
        x.met(0, 1, false);
        x.write(0, 0, true);
        x.write(0, 0, true);
        x.write(0, 0, true);
        x.dawn(4);
        x.deed(2);
        // day 0 (5): 0, 1, 3, 4; day 1 (8): 3; day 2 (2): 0 to 4; day 3 (5): 0, 1, 3, 4, the late one stays
        int[] wants = {7, 2, 6, 3, 4, 8, 0b0001100, 0b0110000, 0b000100, 0b100100, 2, 2, 1, 2, 3, 2};
        for (int what = 0; what < wants.length; what++) {
            Due.due("5 told(" + what + ")", x.told(what), wants[what]);
        }
    }

    private static void promise5CoverAndFullest() {
        // bakers who hear grow to all layers: one is enough, the least
        GiltCockcrow x = Due.in("n3 0;p0 0 0;p2 1 9;p2 2 9;p0 2 0;");
        Due.due("5 COVER of single layers: the least of like ones", x.told(9), 0b0111);
        Due.due("5 FULLEST", x.told(10), 2);
        Due.due("5 TORN", x.told(8), 0);
        x.dawn(1);
        Due.due("5 COVER behind a dawn", x.told(9), 0b0011);
        Due.due("5 TORN behind a dawn", x.told(8), 0b0110);
        x.dawn(1);
        Due.due("5 COVER behind two", x.told(9), 0b0010);
        Due.due("5 FULLEST behind two", x.told(10), 0);
        GiltCockcrow one = Due.in("n3 0;p2 0 9;");
        Due.due("5 EXPLAINED of one", one.told(13), 1);
        Due.due("5 COVER of one", one.told(9), 1);
        one.dawn(1);
        Due.due("5 TORN of one", one.told(8), 1);
        GiltCockcrow y = Due.in("n4 3;");
        Due.due("5 COVER of nobody", y.told(9), 0);
        Due.due("5 FULLEST of nobody", y.told(10), NONE);
        Due.due("5 EXPLAINED of nobody", y.told(13), 0);
        Due.due("5 no MARKS are SEEN nowhere", y.told(7), 0);
        GiltCockcrow z = Due.in("n4 3;p0 0 5;");
        z.deed(0);
        Due.due("5 SEEN goes around", z.told(7), 0b1000);
        z.step(0, 2);
        z.deed(0);
        Due.due("5 MARKS", z.told(6), 0b0101);
        Due.due("5 SEEN", z.told(7), 0b1010);
    }

    private static void promise6Person() {
        GiltCockcrow x = Due.in(Due.TOWN);
        int[] kinds = {0, 1, 2, 3, 4, 0};
        int[] layers = {1, 8, 4, 64, 2, 16};
        int[] ears = {5, 7, 3, 9, 6, 0};
        for (int p = 0; p < 6; p++) {
            Due.due("6 KIND", x.person(p, 0), kinds[p]);
            Due.due("6 LAYERS", x.person(p, 1), layers[p]);
            Due.due("6 EAR", x.person(p, 2), ears[p]);
            Due.due("6 HEARD", x.person(p, 3), 0);
            Due.due("6 MEETS", x.person(p, 4), 0);
        }
        x.dawn(4);
        int[] heard = {3, 3, 1, 4, 3, 0};
        for (int p = 0; p < 6; p++) {
            Due.due("6 HEARD behind four, the late one's odd day, too", x.person(p, 3), heard[p]);
        }
        x.step(5, 3);
        x.step(1, 2);
        Due.due("6 MEETS", x.person(2, 4), 0b111011);
        Due.due("6 MEETS, from the other side", x.person(5, 4), 0b010101);
        Due.due("6 person(6, 0)", x.person(6, 0), UNKNOWN);
        Due.due("6 person(-1, 0)", x.person(-1, 0), UNKNOWN);
        Due.due("6 person(0, 5)", x.person(0, 5), OUTSIDE);
        Due.due("6 person(0, -1)", x.person(0, -1), OUTSIDE);
        Due.due("6 person(6, 5)", x.person(6, 5), UNKNOWN);
    }

    private static void promise7OnLayer() {
        GiltCockcrow x = Due.in("n3 0;p0 0 5;p2 1 5;p0 2 5;p0 0 0;");
        Due.due("7 onLayer(0)", x.onLayer(0), 0b1001);
        Due.due("7 onLayer(1)", x.onLayer(1), 0b0010);
        Due.due("7 onLayer(2)", x.onLayer(2), 0b0100);
        x.dawn(1);
        Due.due("7 onLayer(0) behind a dawn", x.onLayer(0), 0b1100);
        Due.due("7 onLayer(1) behind a dawn", x.onLayer(1), 0b0011);
        Due.due("7 onLayer(2) behind a dawn", x.onLayer(2), 0b0010);
        Due.due("7 onLayer(3)", x.onLayer(3), UNKNOWN);
        Due.due("7 onLayer(-1)", x.onLayer(-1), UNKNOWN);
        Due.due("7 onLayer of an int's end", x.onLayer(Integer.MIN_VALUE), UNKNOWN);
    }

    private static GiltCockcrow busy() {
        GiltCockcrow x = Due.in(Due.TOWN);
        x.dawn(3);
        x.keep(0);
        x.keep(1);
        x.crow(1);
        x.deed(2);
        x.shadow(5, 1);
        x.met(0, 1, true);
        x.write(0, 0, true);
        x.seed(77);
        return x;
    }
}
