/** The edges of promises 1 to 7, sentence by sentence: a town that is there, one that is not, and what is told. */
public final class EdgeTownTest {
    private static final int NONE = GiltCockcrow.NONE;
    private static final int UNKNOWN = GiltCockcrow.UNKNOWN;
    private static final int OUTSIDE = GiltCockcrow.OUTSIDE;
    private static final int NOT = GiltCockcrow.NOT;

    private EdgeTownTest() {
    }

    public static void main(String[] args) {
        refusalsAreFarBelow();
        aNewObject();
        lettersOfFeed();
        textIsEmptyBehindTown();
        aTownBegins();
        aTownEndsWhatWas();
        theSeedStays();
        allElseIsAsItWas();
        howManyPersons();
        theLatestFault();
        whatIsTold();
        lightWithoutATown();
        severalLayers();
        cover();
        fullest();
        personsByNumber();
        whomOneMeets();
        onLayers();
        theFirstAndTheEighthPerson();
        theFirstAndTheEighthAreUndone();
        theFirstAndTheEighthAreTried();
        theFirstAndTheEighthAreSeen();
        aSmallTownBehindAGreatOne();
        the512thCall();
        Due.end();
    }

    private static void refusalsAreFarBelow() {
        Due.sentence("They are far below all that is counted: -1000000001 and on.");
        Due.due("NONE", NONE, -1);
        Due.due("UNKNOWN", UNKNOWN, -1000000001);
        Due.due("OUTSIDE", OUTSIDE, -1000000002);
        Due.due("NOT", NOT, -1000000003);
        Due.due("FULL", GiltCockcrow.FULL, -1000000004);
    }

    private static void aNewObject() {
        Due.sentence("`GiltCockcrow()`: No TOWN.");
        int[] wants = {0, 0, 0, 0, 0, 0, 0, 0, 0, 0, NONE, 0, 0, 0, 0, 0};
        for (int what = 0; what < wants.length; what++) {
            Due.due("told(" + what + ")", new GiltCockcrow().told(what), wants[what]);
        }
        GiltCockcrow x = new GiltCockcrow();
        int[] unknown = {
            x.person(0, 0), x.onLayer(0), x.step(0, 0), x.leave(0, 0), x.ear(0, 0), x.deed(0), x.layers(0, 0),
            x.first(0, 0), x.together(1), x.crows(1, 0), x.know(0, 0), x.market(0), x.torn(0, 1), x.met(0, 1, true),
            x.write(0, 0, true),
        };
        for (int i = 0; i < unknown.length; i++) {
            Due.due("nobody, nowhere, " + i, unknown[i], UNKNOWN);
        }
        int[] not = {
            x.dawn(1), x.crow(1), x.wipe(), x.drift(1), x.undo(), x.together(0), x.asNow(), x.crows(0, 0),
            x.crows(0, 1), x.is(0), x.is(1), x.is(2), x.goBack(0), x.goBack(1),
        };
        for (int i = 0; i < not.length; i++) {
            Due.due("not now, " + i, not[i], NOT);
        }
        Due.due("shadow(1, 0)", x.shadow(1, 0), OUTSIDE);
        Due.due("market(NONE)", x.market(NONE), 0);
        Due.due("fault()", x.fault(), NONE);
        Due.due("tear()", x.tear(), 0);
        Due.due("judge()", x.judge(), NONE);
        Due.due("seed(0)", x.seed(0), 0);
        Edge.same("all is as it was", x, new GiltCockcrow());
    }

    private static void lettersOfFeed() {
        Due.sentence("One letter (a number 0 .. 255) comes behind THE TEXT: how many it has.");
        GiltCockcrow x = new GiltCockcrow();
        int[] letters = {0, 1, 31, 32, 127, 128, 254, 255};
        for (int i = 0; i < letters.length; i++) {
            Due.due("feed(" + letters[i] + ")", x.feed(letters[i]), i + 1);
            Due.due("told(3)", x.told(3), i + 1);
        }
        Due.due("feed(-1)", x.feed(-1), OUTSIDE);
        Due.due("feed(256)", x.feed(256), OUTSIDE);
        // 366 is 'n' behind 256: a letter is not cut to its lowest bits
        Due.due("feed('n' and 256)", x.feed('n' + 256), OUTSIDE);
        Due.due("feed('n' less 256)", x.feed('n' - 256), OUTSIDE);
        Due.due("told(3)", x.told(3), letters.length);
    }

    private static void textIsEmptyBehindTown() {
        Due.sentence("THE TEXT (it is empty then, with a FAULT, too) becomes THE TOWN");
        for (String text : new String[] {"", " ", "n2 0;", "n2 0;x", "n1", "n2 0;n"}) {
            GiltCockcrow x = new GiltCockcrow();
            Due.townOf(x, text);
            Due.due("letters behind " + text, x.told(3), 0);
            Due.due("the next letter is the first", x.feed('n'), 1);
            Due.feedAll(x, "3 1;");
            Due.due("the next town", x.town(), 0);
            Due.due("its N", x.told(0), 3);
        }
        GiltCockcrow x = Due.in("n9 0;p0 0 0;m1,2,3;");
        Due.due("town() without a letter more: no TOWN", x.town(), 0);
        Due.due("N", x.told(0), 0);
    }

    private static void aTownBegins() {
        Due.sentence("(DAY 0, all on X alone, EARS as told, nothing HEARD, no MARKS");
        for (int times = 0; times < 2; times++) {
            GiltCockcrow x = times == 0 ? new GiltCockcrow() : Edge.busy();
            x.town();
            Due.townOf(x, "n9 8;p0 8 9;p1 0 0;p2 4 5;p3 8 1;p4 7 9;p0 1 2;p2 2 3;p2 3 4;");
            Due.due("DAYS", x.told(4), 0);
            Due.due("MARKS", x.told(6), 0);
            Due.due("SEEN", x.told(7), 0);
            Due.due("TORN", x.told(8), 0);
            int[] places = {8, 0, 4, 8, 7, 1, 2, 3};
            int[] ears = {9, 0, 5, 1, 9, 2, 3, 4};
            for (int p = 0; p < 8; p++) {
                Due.due("LAYERS of " + p, x.person(p, 1), 1 << places[p]);
                Due.due("EAR of " + p, x.person(p, 2), ears[p]);
                Due.due("HEARD of " + p, x.person(p, 3), 0);
            }
        }
    }

    private static void aTownEndsWhatWas() {
        Due.sentence("no SHADOWS, nobody MET, no BOOK; IMAGES, what could be undone are gone; THE SEED stays)");
        GiltCockcrow x = Edge.busy();
        Due.due("town() of the text begun", x.town(), 1);
        Due.due("SHADOWS", x.told(11), 0);
        Due.due("MET", x.told(12), 0);
        Due.due("EXPLAINED", x.told(13), 1);
        Due.due("entries", x.told(14), 0);
        Due.due("WRONG", x.judge(), NONE);
        Due.due("IS", x.is(0), 30);
        Due.due("what can be undone", x.told(15), 0);
        Due.due("undo()", x.undo(), NOT);
        Due.due("goBack(0)", x.goBack(0), NOT);
        Due.due("goBack(1)", x.goBack(1), NOT);
        Due.due("THE SEED", x.seed(0), 77);
        Edge.same("as a town of a new object", x, Due.in("n3 1;p0 2 4;"));
        x.dawn(1);
        Due.due("what can be undone from now on", x.told(15), 1);
        Due.due("undo()", x.undo(), 0);
    }

    private static void theSeedStays() {
        Due.sentence("THE SEED stays)");
        for (int seed : new int[] {0, 1, 2147483647}) {
            for (String text : new String[] {"", "n2 0;p0 0 0;", "n2 0;p", "x"}) {
                GiltCockcrow x = Due.in(Due.TOWN);
                x.seed(seed);
                Due.townOf(x, text);
                Due.due("THE SEED behind " + text, x.seed(0), seed);
            }
        }
    }

    private static void allElseIsAsItWas() {
        Due.sentence("-10 less the number of its FAULT (all else is as it was).");
        String[] texts = {"x", "n2", "n2 0;p0 0 0;p1 1 9;m9;x", "n1 0;", "n9 8;p0 9 0;", "n9 8;n", "n3 0;m1;m", "  9999"};
        int[] wants = {-11, -11, -11, -12, -12, -13, -13, -11};
        int[] places = {0, 2, 22, 1, 8, 5, 8, 2};
        for (int i = 0; i < texts.length; i++) {
            String text = texts[i];
            int place = places[i];
            // the text that was begun is ended ahead, and the fault is the same one, so that all can be compared
            Edge.Made made = () -> {
                GiltCockcrow x = Edge.busy();
                Due.feedAll(x, "x");
                x.town();
                Due.townOf(x, " ".repeat(place) + "x");
                return x;
            };
            Edge.refused("town() of " + text, wants[i], made, x -> Due.townOf(x, text));
            GiltCockcrow none = new GiltCockcrow();
            Due.due("town() of " + text + " ahead of any", Due.townOf(none, text), wants[i]);
            Due.due("fault()", none.fault(), place);
            Due.due("no TOWN", none.told(0), 0);
        }
    }

    private static void howManyPersons() {
        Due.sentence("how many PERSONS; -10 less the number of its FAULT");
        StringBuilder text = new StringBuilder("n2 0;");
        for (int many = 0; many <= 8; many++) {
            GiltCockcrow x = new GiltCockcrow();
            Due.due("town()", Due.townOf(x, text.toString()), many);
            Due.due("told(2)", x.told(2), many);
            text.append("p0 0 0;");
        }
        Due.due("nine", Due.townOf(new GiltCockcrow(), text.toString()), -13);
    }

    private static void theLatestFault() {
        Due.sentence("The letter of the FAULT of the latest town(); NONE.");
        GiltCockcrow x = new GiltCockcrow();
        Due.due("ahead of any", x.fault(), NONE);
        Due.townOf(x, "x");
        Due.due("at the first letter", x.fault(), 0);
        Due.due("asked again", x.fault(), 0);
        Due.townOf(x, "n2 0;m1;m");
        Due.due("at the last letter", x.fault(), 8);
        Due.townOf(x, " ".repeat(239) + "n");
        Due.due("at the end of the longest text", x.fault(), 240);
        Due.townOf(x, "");
        Due.due("none in an empty text", x.fault(), NONE);
        Due.townOf(x, "n2 0;n");
        Due.due("at 5", x.fault(), 5);
        x.dawn(1);
        x.tear();
        x.keep(0);
        x.goBack(0);
        Due.feedAll(x, "n2 0;p0 0 0;");
        Due.due("it stays", x.fault(), 5);
        x.town();
        Due.due("none in a good text", x.fault(), NONE);
        x.dawn(0);
        x.dawn(2);
        x.undo();
        Due.due("it stays so", x.fault(), NONE);
    }

    private static void whatIsTold() {
        Due.sentence("0 N, 1 S, 2 PERSONS, 3 letters of THE TEXT, 4 DAYS");
        GiltCockcrow x = Due.in("n9 8;p2 8 9;p2 7 9;");
        Due.due("N", x.told(0), 9);
        Due.due("S", x.told(1), 8);
        Due.due("PERSONS", x.told(2), 2);
        Due.due("letters", x.told(3), 0);
        Due.due("DAYS", x.told(4), 0);
        x.feed(0);
        x.dawn(60);
        Due.due("letters", x.told(3), 1);
        Due.due("DAYS", x.told(4), 60);
        Due.due("told(-1)", x.told(-1), OUTSIDE);
        Due.due("told(16)", x.told(16), OUTSIDE);
        for (int i = 1; i <= 20; i++) {
            x.wipe();
            Due.due("what can be undone", x.told(15), Math.min(i + 1, 16));
        }
    }

    private static void lightWithoutATown() {
        Due.sentence("5 the LIGHT of this DAY (0 without a TOWN)");
        GiltCockcrow x = new GiltCockcrow();
        Due.due("a new object", x.told(5), 0);
        Due.townOf(x, "n2 0;m9,1;x");
        Due.due("a fault", x.told(5), 0);
        Due.townOf(x, "n2 0;m9,1;");
        Due.due("DAY 0", x.told(5), 9);
        x.dawn(1);
        Due.due("DAY 1", x.told(5), 1);
        x.dawn(1);
        Due.due("DAY 2", x.told(5), 9);
        Due.townOf(x, "");
        Due.due("no TOWN any more", x.told(5), 0);
        Due.townOf(x, "n2 0;");
        Due.due("untold", x.told(5), 5);
    }

    private static void severalLayers() {
        Due.sentence("TORN: PERSONS on two LAYERS or more");
        GiltCockcrow x = Due.in("n3 0;p0 0 9;p2 0 8;p2 0 0;p2 0 9;p2 0 9;p2 0 9;p2 0 9;p2 0 9;");
        Due.due("all on one", x.told(8), 0);
        x.crow(9);
        Due.due("on two, but the one who is anybody, who does not hear", x.told(8), 0b11111000);
        x.crow(8);
        Due.due("on three, and one on two", x.told(8), 0b11111010);
        x.leave(1, 0);
        Due.due("on one again", x.told(8), 0b11111000);
        x.step(7, 2);
        Due.due("the last stepped", x.told(8), 0b01111000);
    }

    private static void cover() {
        Due.sentence("COVER: the fewest PERSONS who are together on all LAYERS on which anybody is (a SET; of like ones the least)");
        Due.due("no TOWN", new GiltCockcrow().told(9), 0);
        Due.due("nobody", Due.in("n9 0;").told(9), 0);
        Due.due("one", Due.in("n9 0;p0 8 0;").told(9), 1);
        Due.due("all on one: the least", Due.in("n2 0;p0 1 0;p0 1 0;p0 1 0;").told(9), 0b001);
        Due.due("all apart: all", Due.in("n9 0;p0 8 0;p0 0 0;p0 1 0;p0 2 0;p0 3 0;p0 4 0;p0 5 0;p0 6 0;").told(9), 0b11111111);
        // 0 is on 0 1 2, 1 on 0 and 3, 2 on 1 and 4, 3 on 2 and 5: three are enough, though 0 has most
        GiltCockcrow x = Due.in("n6 0;p2 0 9;p2 0 9;p2 1 9;p2 2 9;");
        x.dawn(5);
        for (int l = 3; l <= 5; l++) {
            x.leave(0, l);
        }
        int[] other = {0, 3, 4, 5};
        for (int p = 1; p <= 3; p++) {
            for (int l = 0; l < 6; l++) {
                if (l != p - 1 && l != other[p]) {
                    x.leave(p, l);
                }
            }
        }
        Due.due("LAYERS of 1", x.person(1, 1), 0b001001);
        Due.due("without the one who has most", x.told(9), 0b1110);
        // two and two are enough, in two ways
        GiltCockcrow y = Due.in("n4 0;p2 0 9;p2 1 9;p2 2 9;p2 3 9;");
        y.dawn(1);
        Due.due("0 1 and 2 3, or 1 2 and 3 0", y.told(9), 0b0101);
        y.step(0, 0);
        Due.due("only 1 2 and 3 0", y.told(9), 0b1010);
        GiltCockcrow last = Due.in("n2 0;p0 0 0;p0 1 0;p2 0 9;");
        last.dawn(1);
        Due.due("one greater is fewer than two lesser", last.told(9), 0b100);
    }

    private static void fullest() {
        Due.sentence("FULLEST: the LAYER with most PERSONS; of like ones the least; NONE: there are no PERSONS.");
        Due.due("no TOWN", new GiltCockcrow().told(10), NONE);
        Due.due("nobody", Due.in("n9 0;").told(10), NONE);
        Due.due("the first layer", Due.in("n9 0;p0 0 0;").told(10), 0);
        Due.due("the last layer", Due.in("n9 0;p0 8 0;").told(10), 8);
        Due.due("of like ones the least", Due.in("n9 0;p0 8 0;p0 3 0;").told(10), 3);
        Due.due("more on the last", Due.in("n9 0;p0 8 0;p0 3 0;p0 8 0;").told(10), 8);
        Due.due("two and two", Due.in("n9 0;p0 8 0;p0 3 0;p0 8 0;p0 3 0;").told(10), 3);
        GiltCockcrow x = Due.in("n9 0;p2 0 9;p2 0 9;p2 0 9;p2 0 9;p2 0 9;p2 0 9;p2 0 9;p2 0 9;");
        x.dawn(8);
        Due.due("all on all", x.told(10), 0);
        x.leave(0, 0);
        Due.due("one less on the first", x.told(10), 1);
    }

    private static void personsByNumber() {
        Due.sentence("Of a PERSON: what = 0 KIND, 1 LAYERS (a SET of LAYERS), 2 EAR, 3 how often it HEARD");
        StringBuilder text = new StringBuilder("n9 0;");
        for (int many = 0; many <= 8; many++) {
            GiltCockcrow x = Due.in(text.toString());
            for (int what = 0; what <= 4; what++) {
                Due.due("one below the first", x.person(-1, what), UNKNOWN);
                Due.due("one behind the last", x.person(many, what), UNKNOWN);
                Due.due("the thirty-third", x.person(32, what), UNKNOWN);
            }
            if (many > 0) {
                int[] wants = {4, 1 << many - 1, 9, 0, 0};
                for (int what = 0; what <= 4; what++) {
                    Due.due("the last", x.person(many - 1, what), wants[what]);
                }
                Due.due("what = -1", x.person(many - 1, -1), OUTSIDE);
                Due.due("what = 5", x.person(many - 1, 5), OUTSIDE);
            }
            text.append("p4 ").append(many).append(" 9;");
        }
    }

    private static void whomOneMeets() {
        Due.sentence("Two PERSONS MEET if they have a LAYER in common.");
        Due.due("alone: not itself", Due.in("n2 0;p0 0 0;").person(0, 4), 0);
        GiltCockcrow all = Due.in("n2 0;p0 1 0;p0 1 0;p0 1 0;p0 1 0;p0 1 0;p0 1 0;p0 1 0;p0 1 0;");
        for (int p = 0; p < 8; p++) {
            Due.due("all but itself", all.person(p, 4), 255 - (1 << p));
        }
        // 0 is on 8 and 0, 1 on 0 and 1, 2 on 7 and 8: 0 meets both, they do not meet
        GiltCockcrow x = Due.in("n9 0;p2 8 9;p2 0 9;p2 7 9;p0 4 0;");
        x.crow(9);
        Due.due("0 meets", x.person(0, 4), 0b0110);
        Due.due("1 meets", x.person(1, 4), 0b0001);
        Due.due("2 meets", x.person(2, 4), 0b0001);
        Due.due("3 meets nobody", x.person(3, 4), 0);
    }

    private static void onLayers() {
        Due.sentence("`int onLayer(int x)`: Who is on a LAYER. UNKNOWN.");
        for (int n = 2; n <= 9; n++) {
            GiltCockcrow x = Due.in("n" + n + " 0;p0 " + (n - 1) + " 0;p2 " + (n - 1) + " 9;p0 0 0;");
            Due.due("onLayer(-1)", x.onLayer(-1), UNKNOWN);
            Due.due("the first", x.onLayer(0), 0b100);
            Due.due("the last", x.onLayer(n - 1), 0b011);
            Due.due("one more", x.onLayer(n), UNKNOWN);
            Due.due("as many as bits come around", x.onLayer(32), UNKNOWN);
            Due.due("the last, around", x.onLayer(32 + n - 1), UNKNOWN);
            x.crow(1);
            Due.due("the first behind a crow", x.onLayer(0), 0b110);
        }
    }

    /** Seven who hear nothing are on layer 4, and one, the first or the last of them, is told besides. */
    private static GiltCockcrow oneOfEight(int p, String one) {
        StringBuilder text = new StringBuilder("n9 1;");
        for (int q = 0; q < 8; q++) {
            text.append(q == p ? one : "p0 4 0;");
        }
        return Due.in(text.toString());
    }

    private static void theFirstAndTheEighthPerson() {
        Due.sentence("(8 PERSONS at most");
        for (int p = 0; p <= 7; p += 7) {
            int one = 1 << p;
            GiltCockcrow x = oneOfEight(p, "p2 3 9;");
            Due.due("KIND", x.person(p, 0), 2);
            Due.due("FULLEST", x.told(10), 4);
            Due.due("COVER", x.told(9), one | (p == 0 ? 2 : 1));
            Due.due("it meets nobody", x.person(p, 4), 0);
            Due.due("who hears", x.crow(9), one);
            Due.due("TORN", x.told(8), one);
            Due.due("COVER", x.told(9), one);
            Due.due("torn(3, 4)", x.torn(3, 4), one);
            Due.due("onLayer(3)", x.onLayer(3), one);
            Due.due("onLayer(4)", x.onLayer(4), 255);
            Due.due("it meets all", x.person(p, 4), 255 - one);
            Due.due("deed", x.deed(p), 0b11000);
            Due.due("leave", x.leave(p, 3), 0b10000);
            Due.due("step", x.step(p, 8), 0b10000);
            Due.due("ear", x.ear(p, 3), 9);
            Due.due("FULLEST", x.told(10), 4);
            x.dawn(1);
            Due.due("HEARD", x.person(p, 3), 1);
        }
    }

    private static void theFirstAndTheEighthAreUndone() {
        Due.sentence("all of section 2 is as ahead of it");
        for (int p = 0; p <= 7; p += 7) {
            GiltCockcrow x = oneOfEight(p, "p0 3 9;");
            x.crow(9);
            x.keep(1);
            x.crow(9);
            x.ear(p, 2);
            x.step(p, 0);
            Due.due("LAYERS", x.person(p, 1), 1);
            Due.due("EAR", x.person(p, 2), 2);
            Due.due("HEARD", x.person(p, 3), 2);
            x.undo();
            Due.due("LAYERS, undone", x.person(p, 1), 1 << 5);
            x.undo();
            Due.due("EAR, undone", x.person(p, 2), 9);
            x.undo();
            Due.due("HEARD, undone", x.person(p, 3), 1);
            x.crow(9);
            x.ear(p, 2);
            x.step(p, 0);
            x.goBack(1);
            Due.due("LAYERS of the image", x.person(p, 1), 1 << 4);
            Due.due("EAR of the image", x.person(p, 2), 9);
            Due.due("HEARD of the image", x.person(p, 3), 1);
        }
    }

    private static void theFirstAndTheEighthAreTried() {
        Due.sentence("A SET is a whole number, bit k for k");
        for (int p = 0; p <= 7; p += 7) {
            int one = 1 << p;
            GiltCockcrow x = oneOfEight(p, "p0 3 9;");
            Due.due("behind a dawn", x.layers(p, 1), 1 << 4);
            Due.due("first", x.first(p, 2), 8);
            Due.due("together", x.together(255), 1);
            Due.due("asNow", x.asNow(), 9);
            Due.due("crows", x.crows(255, 0), 1);
            Due.due("LIGHTS", x.crows(255, 1), 1);
            Due.due("what it does is seen by the others", x.know(p, 1), 255);
            Due.due("what another does is seen by nobody", x.know(p == 0 ? 1 : 0, 9), p == 0 ? 2 : 1);
            Due.due("market(NONE)", x.market(NONE), 2);
            Due.due("market(3)", x.market(3), p);
            Due.due("market(4)", x.market(4), p == 0 ? 1 : 0);
            x.step(p, 5);
            Due.due("what another does is seen by it", x.know(p == 0 ? 1 : 0, 1), one | (p == 0 ? 2 : 1));
            x.ear(p, 0);
            Due.due("it hears nothing now", x.layers(p, 200), 1 << 5);
            Due.due("asNow", x.asNow(), 1);
            Due.due("together", x.together(255), NONE);
        }
        // all of 0 .. 7 have a layer, then the doing of each goes to the next, and around to the first
        GiltCockcrow all = Due.in("n8 1;p0 0 0;p0 1 0;p0 2 0;p0 3 0;p0 4 0;p0 5 0;p0 6 0;p0 7 0;");
        Due.due("from the last to the first", all.know(7, 1), 0b10000001);
        Due.due("and on", all.know(7, 2), 0b10000011);
        Due.due("through the last", all.know(6, 2), 0b11000001);
        for (int l = 0; l < 8; l++) {
            Due.due("market(" + l + ")", all.market(l), l);
        }
    }

    private static void theFirstAndTheEighthAreSeen() {
        Due.sentence("What has a number has it from 0 on, as it comes.");
        GiltCockcrow x = oneOfEight(7, "p0 8 9;");
        Due.due("met", x.met(0, 7, false), 1);
        Due.due("EXPLAINED", x.told(13), 2);
        Due.due("the first and the eighth met, too", x.met(7, 0, true), 2);
        Due.due("EXPLAINED", x.told(13), NONE);
        Due.due("write", x.write(7, 8, true), 1);
        Due.due("judge", x.judge(), NONE);
        Due.due("write", x.write(0, 4, false), 2);
        Due.due("judge: the second has number 1", x.judge(), 1);
        x.step(7, 0);
        Due.due("judge: the first has number 0", x.judge(), 0);
    }

    /** All that an object has made for greater towns is as new for a smaller one. */
    private static void aSmallTownBehindAGreatOne() {
        Due.sentence("becomes THE TOWN");
        String great = "n9 8;p2 0 9;p2 1 9;p2 2 9;p2 3 9;p2 4 9;p2 5 9;p2 6 9;p2 7 9;m1,2,3,4,5,6,7,8,9,1,2,3;";
        String[] small = {"n2 0;", "n2 1;p2 0 9;", "n3 1;p0 2 0;p2 1 9;", "n4 1;p2 0 9;p2 1 9;p0 1 9;m9;"};
        for (String text : small) {
            GiltCockcrow x = Due.in(great);
            x.dawn(60);
            for (int l = NONE; l < 9; l++) {
                x.market(l);
            }
            for (int p = 0; p < 7; p++) {
                x.met(p, p + 1, p % 2 == 0);
            }
            x.told(9);
            x.told(13);
            x.crows(255, 1);
            x.shadow(1, 8);
            x.is(2);
            x.keep(0);
            x.seed(0);
            GiltCockcrow y = Due.in(text);
            Due.due("town()", Due.townOf(x, text), y.told(2));
            for (int day = 0; day < 6; day++) {
                Edge.same("day " + day + " of " + text, x, y);
                for (int l = NONE; l <= 9; l++) {
                    Due.due("market(" + l + ") of " + text, x.market(l), y.market(l));
                    Due.due("onLayer(" + l + ") of " + text, x.onLayer(l), y.onLayer(l));
                }
                for (int set = 0; set < 16; set++) {
                    Due.due("together(" + set + ") of " + text, x.together(set), y.together(set));
                    Due.due("crows(" + set + ") of " + text, x.crows(set, 1), y.crows(set, 1));
                }
                Due.due("asNow() of " + text, x.asNow(), y.asNow());
                Due.due("a drift", x.drift(1), y.drift(1));
            }
            Due.due("nobody more", x.person(y.told(2), 0), UNKNOWN);
        }
    }

    private static void the512thCall() {
        Due.sentence("An object is used for at most 512 calls after it has been made");
        GiltCockcrow x = new GiltCockcrow();
        for (int i = 1; i <= 240; i++) {
            Due.due("feed", x.feed("n7 0;p4 0 9;".charAt(i <= 228 ? 2 : i - 229)), i);
        }
        Due.due("a letter too many, the 241st call", x.feed(' '), GiltCockcrow.FULL);
        Due.due("the 242nd call", x.town(), 1);
        for (int i = 1; i <= 5; i++) {
            Due.due("feed", x.feed("n7 0;".charAt(i - 1)), i);
        }
        Due.due("the 248th call", x.town(), 0);
        for (int call = 249; call <= 511; call++) {
            Due.due("call " + call, x.dawn(1), call - 248);
        }
        Due.due("the 512th call", x.undo(), 15);
    }
}
