/** The edges of what is seen, drawn and kept, sentence by sentence: section 3 of the document, promises 26 to 34. */
public final class EdgeSeenTest {
    private static final int NONE = GiltCockcrow.NONE;
    private static final int UNKNOWN = GiltCockcrow.UNKNOWN;
    private static final int OUTSIDE = GiltCockcrow.OUTSIDE;
    private static final int NOT = GiltCockcrow.NOT;
    private static final int FULL = GiltCockcrow.FULL;

    private static final String EIGHT = "n2 0;p0 0 0;p0 0 0;p0 0 0;p0 0 0;p0 0 0;p0 0 0;p0 0 0;p0 0 0;";

    private EdgeSeenTest() {
    }

    public static void main(String[] args) {
        sixShadows();
        howFarAShadowWent();
        shadowsWithoutATown();
        shadowsByKind();
        pairsThatFit();
        noPairFits();
        firstAndLastLightToWatch();
        noLightParts();
        tenMet();
        metByTwo();
        explainedWithoutPersons();
        explainedAtLeast();
        explainedNone();
        fifteenEntries();
        theFirstWrong();
        tearAll();
        tearLeavesTheRest();
        seedBounds();
        theSeedComesAround();
        twoImages();
        nothingCanBeUndone();
        imagesKeepAll();
        imagesOfDifferentDays();
        notKept();
        Due.end();
    }

    private static void sixShadows() {
        Due.sentence("SHADOWS (6 at most)");
        GiltCockcrow x = Due.in("n9 0;");
        for (int i = 1; i <= 6; i++) {
            Due.due("shadow", x.shadow(10 - i, 8), i);
            Due.due("told(11)", x.told(11), i);
            Due.due("lads whose ears are 9", x.is(0), 1);
        }
        Due.due("a seventh, by which none would fit", x.shadow(9, 0), FULL);
        Due.due("told(11)", x.told(11), 6);
        Due.due("it is not counted", x.is(0), 1);
        Due.due("torn", x.tear(), 6);
        Due.due("one again", x.shadow(1, 1), 1);
        // each of the six counts: the sixth alone tells an ear of 6 from one of 7
        GiltCockcrow y = Due.in("n9 0;");
        int[] lights = {1, 2, 3, 4, 8, 7};
        int[] fits = {9, 8, 7, 6, 4, 3};
        for (int i = 0; i < 6; i++) {
            y.shadow(lights[i], lights[i] > 6 ? 0 : 1);
            Due.due("how many fit behind " + (i + 1), y.is(0), fits[i]);
        }
    }

    private static void howFarAShadowWent() {
        Due.sentence("at a CROW of LIGHT x it went m ON (0 .. N less 1)");
        for (int n = 2; n <= 9; n++) {
            GiltCockcrow x = Due.in("n" + n + " 0;");
            Due.due("m = -1", x.shadow(1, -1), OUTSIDE);
            Due.due("m = 0", x.shadow(1, 0), 1);
            Due.due("m = " + (n - 1), x.shadow(1, n - 1), 2);
            Due.due("m = " + n, x.shadow(1, n), OUTSIDE);
            Due.due("light 0", x.shadow(0, 0), OUTSIDE);
            Due.due("light 1", x.shadow(1, 0), 3);
            Due.due("light 9", x.shadow(9, 0), 4);
            Due.due("light 10", x.shadow(10, 0), OUTSIDE);
            Due.due("told(11)", x.told(11), 4);
        }
    }

    private static void shadowsWithoutATown() {
        Due.sentence("OUTSIDE (m: N or more, too; without a TOWN there is none), FULL (6).");
        GiltCockcrow x = new GiltCockcrow();
        for (int m = -1; m <= 9; m++) {
            Due.due("shadow(1, " + m + ")", x.shadow(1, m), OUTSIDE);
        }
        Due.due("told(11)", x.told(11), 0);
        Due.due("in a town of nobody", Due.in("n2 0;").shadow(1, 1), 1);
    }

    /** What each kind does at a light that it hears; of few layers they come around to the same. */
    private static void shadowsByKind() {
        Due.sentence("a PERSON of unknown KIND (0, 1, 3) and EAR (0 .. 9), on one LAYER");
        for (int n = 2; n <= 9; n++) {
            int[] goes = {1, 2 % n, n - 1};
            for (int m = 0; m < n; m++) {
                int heard = (goes[0] == m ? 1 : 0) + (goes[1] == m ? 1 : 0) + (goes[2] == m ? 1 : 0);
                for (int light = 1; light <= 9; light++) {
                    GiltCockcrow x = Due.in("n" + n + " 0;");
                    x.shadow(light, m);
                    // ears of the light and more hear it: 10 less the light of them; the others stay
                    int want = heard * (10 - light) + (m == 0 ? 3 * light : 0);
                    Due.due("how many go " + m + " of " + n + " at " + light, x.is(0), want);
                    int first = m == 0 ? 0 : goes[0] == m ? light : goes[1] == m ? 10 + light : 30 + light;
                    Due.due("the first who goes " + m + " of " + n, x.is(1), heard > 0 || m == 0 ? first : NONE);
                }
            }
        }
    }

    private static void pairsThatFit() {
        Due.sentence("the first (10 times the KIND, and the EAR; rising; NONE)");
        GiltCockcrow x = Due.in("n9 0;");
        Due.due("all", x.is(0), 30);
        Due.due("the least of all", x.is(1), 0);
        x.shadow(9, 8);
        Due.due("the greatest of all", x.is(1), 39);
        Due.due("it alone", x.is(0), 1);
        x.tear();
        x.shadow(1, 0);
        Due.due("ears of 0", x.is(0), 3);
        Due.due("the first", x.is(1), 0);
        x.tear();
        x.shadow(9, 2);
        Due.due("a nun of 9", x.is(1), 19);
        x.tear();
        x.shadow(1, 2);
        Due.due("a nun of 1", x.is(1), 11);
        Due.due("is(-1)", x.is(-1), OUTSIDE);
        Due.due("is(3)", x.is(3), OUTSIDE);
    }

    private static void noPairFits() {
        Due.sentence("IS: what = 0 how many, 1 the first, 2 LIGHT TO WATCH; NONE.");
        GiltCockcrow x = Due.in("n9 0;");
        x.shadow(5, 4);
        Due.due("nobody goes so far: how many", x.is(0), 0);
        Due.due("the first", x.is(1), NONE);
        Due.due("LIGHT TO WATCH", x.is(2), NONE);
        x.tear();
        x.shadow(4, 0);
        x.shadow(5, 1);
        Due.due("who hears 5 hears 4: how many", x.is(0), 0);
        Due.due("the first", x.is(1), NONE);
        Due.due("LIGHT TO WATCH", x.is(2), NONE);
    }

    private static void firstAndLastLightToWatch() {
        Due.sentence("LIGHT TO WATCH (1 .. 9): the one by how far it would go these are told apart best: "
                + "the greatest part that is alike is least; of like ones the least");
        GiltCockcrow x = Due.in("n9 0;");
        // all are left: at 1 nine of each kind go, at 2 eight, at 3 nine stay
        Due.due("of all", x.is(2), 2);
        Due.due("of all, asked again", x.is(2), 2);
        for (int n = 4; n <= 9; n++) {
            Due.due("of all in a town of " + n, Due.in("n" + n + " 0;").is(2), 2);
        }
        // of three layers nuns and lads go alike: at 4 twelve of them; of two there stay ten nuns and 2 l others
        Due.due("of all in a town of 3", Due.in("n3 0;").is(2), 4);
        Due.due("of all in a town of 2", Due.in("n2 0;").is(2), 2);
        // ears of 0 and 1 are left: at 1 half of them stay, at others all do
        x.shadow(2, 0);
        Due.due("the first light", x.is(2), 1);
        x.tear();
        // anybody of 8 or 9 is left
        x.shadow(8, 1);
        Due.due("the last light", x.is(2), 9);
        x.tear();
        // anybody of 5 to 9 is left: at 7 and at 8 there are two and three, at 7 first
        x.shadow(5, 1);
        Due.due("of like ones the least", x.is(2), 7);
        x.tear();
        // anybody of 6 to 9 is left: at 8 there are two and two
        x.shadow(6, 1);
        Due.due("the one that halves them", x.is(2), 8);
        x.tear();
        // of two layers: who stayed at 9 is a nun or has an ear of 0 to 8
        GiltCockcrow two = Due.in("n2 0;");
        two.shadow(9, 0);
        Due.due("how many", two.is(0), 28);
        // at light l there stay 10 nuns and 2 l others, and 2 (9 - l) go: at 2 and at 3 it is 14, at 2 first
        Due.due("the least of like ones", two.is(2), 2);
    }

    private static void noLightParts() {
        Due.sentence("NONE: none parts them");
        GiltCockcrow x = Due.in("n9 0;");
        x.shadow(9, 1);
        Due.due("one alone", x.is(0), 1);
        Due.due("nothing to part", x.is(2), NONE);
        x.tear();
        x.shadow(1, 0);
        Due.due("three of ear 0, who never hear", x.is(0), 3);
        Due.due("none parts them", x.is(2), NONE);
        GiltCockcrow three = Due.in("n3 0;");
        three.shadow(9, 2);
        Due.due("a nun and a lad of three layers", three.is(0), 2);
        Due.due("none parts them", three.is(2), NONE);
        GiltCockcrow four = Due.in("n4 0;");
        four.shadow(9, 2);
        Due.due("of four layers a nun alone", four.is(0), 1);
        GiltCockcrow two = Due.in("n2 0;");
        two.shadow(9, 1);
        Due.due("anybody and a lad of two layers", two.is(0), 2);
        Due.due("none parts them", two.is(2), NONE);
    }

    private static void tenMet() {
        Due.sentence("MET (10 at most): two PERSONS met, or did not");
        GiltCockcrow x = Due.in(EIGHT);
        int many = 0;
        for (int p = 0; p < 5; p++) {
            for (int q = p + 1; q < 5; q++) {
                many++;
                Due.due("met", x.met(p, q, false), many);
                Due.due("told(12)", x.told(12), many);
            }
        }
        Due.due("all ten are counted", x.told(13), 5);
        Due.due("an eleventh", x.met(5, 0, true), FULL);
        Due.due("an eleventh that did not", x.met(5, 0, false), FULL);
        Due.due("told(12)", x.told(12), 10);
        Due.due("told(13)", x.told(13), 5);
        Due.due("torn", x.tear(), 10);
        Due.due("one again", x.met(0, 1, true), 1);
        Due.due("the same again", x.met(0, 1, true), 2);
        Due.due("the other way", x.met(1, 0, true), 3);
    }

    private static void metByTwo() {
        Due.sentence("one twice, where two are asked");
        GiltCockcrow x = Due.in(EIGHT);
        for (int p = 0; p < 8; p++) {
            Due.due("met(" + p + ", " + p + ")", x.met(p, p, false), UNKNOWN);
        }
        Due.due("the last and the first", x.met(7, 0, false), 1);
        Due.due("the first and the last", x.met(0, 7, false), 2);
        Due.due("one more", x.met(8, 0, false), UNKNOWN);
        Due.due("with one more", x.met(0, 8, false), UNKNOWN);
        Due.due("torn(0, 0)", x.torn(0, 0), UNKNOWN);
        Due.due("torn(1, 1)", x.torn(1, 1), UNKNOWN);
        Due.due("told(12)", x.told(12), 2);
    }

    private static void explainedWithoutPersons() {
        Due.sentence("(0 without PERSONS)");
        Due.due("no TOWN", new GiltCockcrow().told(13), 0);
        Due.due("a town of nobody", Due.in("n9 0;").told(13), 0);
        for (int many = 1; many <= 8; many++) {
            Due.due("with " + many, Due.in(EIGHT.substring(0, 5 + 7 * many)).told(13), 1);
        }
    }

    private static void explainedAtLeast() {
        Due.sentence("each PERSON being on one unknown LAYER of an unknown town");
        // the town has two layers: that is nothing to it
        GiltCockcrow x = Due.in(EIGHT);
        int[][] pairs = {{0, 1}, {0, 2}, {1, 2}, {0, 3}, {1, 3}, {2, 3}, {0, 4}, {1, 4}, {2, 4}, {3, 4}};
        int[] wants = {2, 2, 3, 3, 3, 4, 4, 4, 4, 5};
        for (int i = 0; i < pairs.length; i++) {
            x.met(pairs[i][0], pairs[i][1], false);
            Due.due("behind " + (i + 1), x.told(13), wants[i]);
        }
        x.tear();
        for (int p = 0; p < 7; p++) {
            x.met(p, p + 1, true);
        }
        Due.due("a chain of all who met", x.told(13), 1);
        x.step(0, 1);
        x.dawn(5);
        Due.due("where they are now is nothing to it", x.told(13), 1);
    }

    private static void explainedNone() {
        Due.sentence("those who did not on unlike ones (0 without PERSONS); NONE: it cannot be.");
        GiltCockcrow x = Due.in(EIGHT);
        for (int p = 0; p < 7; p++) {
            x.met(p, p + 1, true);
        }
        x.met(0, 7, false);
        Due.due("the ends of a chain of seven", x.told(13), NONE);
        x.tear();
        x.met(6, 7, false);
        x.met(7, 6, true);
        Due.due("the last two met and did not", x.told(13), NONE);
        x.tear();
        x.met(6, 7, false);
        x.met(5, 6, true);
        Due.due("it can be", x.told(13), 2);
    }

    private static void fifteenEntries() {
        Due.sentence("THE BOOK (15 at most) tells whether PERSONS are on LAYERS");
        GiltCockcrow x = Due.in("n9 0;p0 8 9;p2 0 9;");
        for (int i = 1; i <= 14; i++) {
            Due.due("write", x.write(0, i % 8, false), i);
        }
        Due.due("the fifteenth", x.write(0, 8, false), 15);
        Due.due("told(14)", x.told(14), 15);
        Due.due("the last is WRONG", x.judge(), 14);
        Due.due("a sixteenth", x.write(0, 8, true), FULL);
        Due.due("a sixteenth that is not", x.write(0, 8, false), FULL);
        Due.due("told(14)", x.told(14), 15);
        Due.due("the last is WRONG", x.judge(), 14);
        Due.due("torn", x.tear(), 15);
        Due.due("one again", x.write(1, 0, true), 1);
        Due.due("the last layer", x.write(1, 8, false), 2);
        Due.due("one more", x.write(1, 9, false), UNKNOWN);
        Due.due("nobody", x.write(2, 8, false), UNKNOWN);
        Due.due("WRONG", x.judge(), NONE);
    }

    private static void theFirstWrong() {
        Due.sentence("WRONG: the first that is otherwise now; NONE.");
        Due.due("no TOWN", new GiltCockcrow().judge(), NONE);
        GiltCockcrow x = Due.in("n9 0;p2 8 9;p0 4 9;");
        Due.due("an empty book", x.judge(), NONE);
        x.write(0, 8, true);
        x.write(0, 0, false);
        x.write(1, 4, true);
        x.write(1, 5, false);
        x.write(0, 8, true);
        Due.due("all is so", x.judge(), NONE);
        x.step(1, 5);
        Due.due("two are wrong: the first of them", x.judge(), 2);
        x.step(1, 4);
        x.crow(9);
        Due.due("the baker came to 0", x.judge(), 1);
        x.leave(0, 8);
        Due.due("and left 8", x.judge(), 0);
        x.undo();
        x.undo();
        Due.due("undone", x.judge(), NONE);
    }

    private static void tearAll() {
        Due.sentence("No SHADOWS, nobody MET, THE BOOK is empty: how much all had.");
        Due.due("no TOWN", new GiltCockcrow().tear(), 0);
        GiltCockcrow x = Due.in(EIGHT);
        Due.due("nothing", x.tear(), 0);
        for (int i = 0; i < 15; i++) {
            x.write(0, 1, true);
            x.met(0, 1, i % 2 == 0);
            x.shadow(1, 1);
        }
        Due.due("6, 10 and 15", x.tear(), 31);
        for (int what : new int[] {11, 12, 14}) {
            Due.due("told(" + what + ")", x.told(what), 0);
        }
        Due.due("EXPLAINED", x.told(13), 1);
        Due.due("IS", x.is(0), 30);
        Due.due("WRONG", x.judge(), NONE);
        Due.due("again", x.tear(), 0);
        Due.due("a shadow alone", x.shadow(1, 1) + x.tear(), 2);
        Due.due("a meeting alone", x.met(0, 1, true) + x.tear(), 2);
        Due.due("an entry alone", x.write(0, 1, true) + x.tear(), 2);
    }

    private static void tearLeavesTheRest() {
        Due.sentence("THE BOOK is empty");
        GiltCockcrow x = Edge.busy();
        Due.due("tear()", x.tear(), 7);
        Due.due("what can be undone", x.told(15), 16);
        Due.due("letters", x.told(3), 12);
        Due.due("fault()", x.fault(), 5);
        Due.due("THE SEED", x.seed(77), 77);
        Due.due("goBack(1)", x.goBack(1), 1);
        Due.due("goBack(0)", x.goBack(0), 1);
        Due.due("what was torn does not come back", x.tear(), 0);
    }

    private static void seedBounds() {
        Due.sentence("THE SEED becomes v (0 .. 2147483647): what it was.");
        GiltCockcrow x = new GiltCockcrow();
        Due.due("seed(0)", x.seed(0), 0);
        Due.due("seed(1)", x.seed(1), 0);
        Due.due("seed(2147483647)", x.seed(2147483647), 1);
        Due.due("seed(-1)", x.seed(-1), OUTSIDE);
        Due.due("seed(-2147483648)", x.seed(Integer.MIN_VALUE), OUTSIDE);
        Due.due("seed(2147483646)", x.seed(2147483646), 2147483647);
        Due.due("seed(0)", x.seed(0), 2147483646);
    }

    private static void theSeedComesAround() {
        Due.sentence("left over by 2 to the 31");
        for (long seed : new long[] {0, 1, 2, 1000000000, 1073741823, 1073741824, 2147483646, 2147483647}) {
            GiltCockcrow x = Due.in("n7 0;p0 0 0;p0 1 0;p0 2 0;");
            x.seed((int) seed);
            x.drift(1);
            long first = next(seed);
            long then = next(first);
            // there is a third draw of layers, of ears or of lights; none if it is done by somebody, or nothing is
            long what = first / 65536L % 5L;
            then = what == 2 || what == 4 ? then : next(then);
            int left = x.seed(0);
            Due.due("from " + seed, left, then);
            Due.dueTrue("never below 0", left >= 0);
        }
    }

    private static long next(long seed) {
        return (seed * 1103515245L + 12345L) % 2147483648L;
    }

    private static void twoImages() {
        Due.sentence("IMAGES 0, 1 keep all of section 2, THE SEED.");
        GiltCockcrow x = Due.in(Due.TOWN);
        Due.due("keep(-1)", x.keep(-1), UNKNOWN);
        Due.due("keep(2)", x.keep(2), UNKNOWN);
        Due.due("goBack(-1)", x.goBack(-1), UNKNOWN);
        Due.due("goBack(2)", x.goBack(2), UNKNOWN);
        Due.due("keep(0)", x.keep(0), 1);
        x.dawn(1);
        Due.due("keep(1)", x.keep(1), 1);
        x.dawn(1);
        Due.due("goBack(0)", x.goBack(0), 1);
        Due.due("DAYS", x.told(4), 0);
        Due.due("goBack(1)", x.goBack(1), 1);
        Due.due("DAYS", x.told(4), 1);
        x.dawn(9);
        Due.due("keep(0) again", x.keep(0), 1);
        Due.due("goBack(1)", x.goBack(1), 1);
        Due.due("the other stays", x.told(4), 1);
        Due.due("goBack(0)", x.goBack(0), 1);
        Due.due("the later one", x.told(4), 10);
        Due.due("goBack(0) again", x.goBack(0), 1);
        Due.due("an image is not used up", x.told(4), 10);
    }

    private static void nothingCanBeUndone() {
        Due.sentence("(nothing can be undone then)");
        for (int way = 0; way < 4; way++) {
            GiltCockcrow x = Edge.busy();
            Due.due("ahead", x.told(15), 16);
            Due.due("1", way < 2 ? x.keep(way) : x.goBack(way - 2), 1);
            Due.due("told(15)", x.told(15), 0);
            Due.due("undo()", x.undo(), NOT);
            int days = x.told(4);
            x.dawn(1);
            Due.due("from now on", x.told(15), 1);
            Due.due("undo()", x.undo(), 0);
            Due.due("DAYS", x.told(4), days);
            Due.due("undo() again", x.undo(), NOT);
            for (int i = 1; i <= 18; i++) {
                x.wipe();
                Due.due("told(15)", x.told(15), Math.min(i, 16));
            }
        }
    }

    private static void imagesKeepAll() {
        Due.sentence("keep all of section 2, THE SEED");
        for (int image = 0; image < 2; image++) {
            GiltCockcrow x = Edge.busy();
            x.seed(2147483647);
            x.keep(image);
            GiltCockcrow y = Edge.busy();
            y.seed(2147483647);
            y.keep(image);
            x.seed(1);
            x.drift(60);
            x.wipe();
            x.ear(0, 0);
            x.step(1, 1);
            x.goBack(image);
            Edge.same("all is as it was kept in " + image, x, y);
            Due.due("THE SEED", x.seed(0), 2147483647);
        }
    }

    private static void imagesOfDifferentDays() {
        Due.sentence("What is so becomes IMAGE i");
        GiltCockcrow x = Due.in("n9 0;p4 0 9;m1,2,3;");
        x.dawn(3);
        x.keep(0);
        x.dawn(1);
        x.deed(0);
        x.shadow(1, 1);
        x.feed('n');
        x.goBack(0);
        Due.due("DAYS", x.told(4), 3);
        Due.due("LIGHT", x.told(5), 1);
        Due.due("MARKS", x.told(6), 0);
        Due.due("HEARD", x.person(0, 3), 3);
        Due.due("SHADOWS stay", x.told(11), 1);
        Due.due("THE TEXT stays", x.told(3), 1);
        x.crow(9);
        Due.due("on an odd day the late one stays", x.person(0, 1), 1 << 2);
        x.dawn(1);
        x.keep(1);
        x.goBack(1);
        Due.due("DAYS", x.told(4), 4);
    }

    private static void notKept() {
        Due.sentence("UNKNOWN, NOT: it was not kept.");
        GiltCockcrow x = Due.in(Due.TOWN);
        Due.due("goBack(0)", x.goBack(0), NOT);
        Due.due("goBack(1)", x.goBack(1), NOT);
        x.keep(1);
        Due.due("goBack(0)", x.goBack(0), NOT);
        Due.due("goBack(1)", x.goBack(1), 1);
        Due.townOf(x, "n2 0;x");
        Due.due("goBack(1) behind a fault", x.goBack(1), 1);
        Due.townOf(x, Due.TOWN);
        Due.due("goBack(1) in another town", x.goBack(1), NOT);
        GiltCockcrow none = new GiltCockcrow();
        Due.due("goBack(0) without a TOWN", none.goBack(0), NOT);
        none.seed(8);
        Due.due("keep(0) without a TOWN", none.keep(0), 1);
        none.seed(9);
        Due.due("goBack(0) without a TOWN", none.goBack(0), 1);
        Due.due("THE SEED", none.seed(0), 8);
        Due.townOf(none, "n2 0;");
        Due.due("goBack(0) in a town behind it", none.goBack(0), NOT);
    }
}
