/** The edges of what is tried, sentence by sentence: section 3 of the document, promises 17 to 25. */
public final class EdgeTriedTest {
    private static final int NONE = GiltCockcrow.NONE;
    private static final int UNKNOWN = GiltCockcrow.UNKNOWN;
    private static final int OUTSIDE = GiltCockcrow.OUTSIDE;

    private static final String EIGHT_BAKERS = "n9 0;p2 0 9;p2 0 9;p2 0 9;p2 0 9;p2 0 9;p2 0 9;p2 0 9;p2 0 9;";

    private EdgeTriedTest() {
    }

    public static void main(String[] args) {
        nothingChanges();
        layersBehind0To200();
        firstBehind0To200();
        firstNone();
        togetherBehind0To200();
        togetherOfNobody();
        togetherNone();
        setsOfPersons();
        asNowFrom1();
        asNowFarthest();
        asNowNone();
        fiveCrowsAtMost();
        noCrowIsNeeded();
        theLeastLights();
        crowsNone();
        knowToDepth0To9();
        knowComesAround();
        marketOfNone();
        mostLayers();
        theFirstMarket();
        tornOfTwo();
        darkBounds();
        darkIsCut();
        Due.end();
    }

    private static void nothingChanges() {
        Due.sentence("TRIED from now, as nothing else is done; nothing changes by it.");
        Edge.Call[] calls = {
            x -> x.layers(2, 200), x -> x.first(5, 0), x -> x.together(63), x -> x.asNow(), x -> x.crows(63, 0),
            x -> x.crows(63, 1), x -> x.know(2, 9), x -> x.market(NONE), x -> x.market(0), x -> x.torn(0, 1),
            x -> x.dark(60, 99), x -> x.told(9), x -> x.told(13), x -> x.is(2), x -> x.judge(),
        };
        for (int i = 0; i < calls.length; i++) {
            int once = calls[i].on(Edge.busy());
            GiltCockcrow x = Edge.busy();
            calls[i].on(x);
            Due.due("asked twice, " + i, calls[i].on(x), once);
            Edge.refused("tried, " + i, once, Edge::busy, calls[i]);
        }
    }

    private static void layersBehind0To200() {
        Due.sentence("LAYERS of a PERSON behind n DAWNS (0 .. 200).");
        GiltCockcrow x = Due.in("n9 0;p0 8 9;p3 0 9;p1 7 9;p4 8 9;p2 8 1;m1,2;");
        Due.due("now", x.layers(0, 0), 256);
        Due.due("behind 1", x.layers(0, 1), 1);
        Due.due("behind 199: 207 left over by 9", x.layers(0, 199), 1);
        Due.due("behind 200", x.layers(0, 200), 2);
        Due.due("a lad behind 200: 1600 left over by 9", x.layers(1, 200), 1 << 7);
        Due.due("a nun behind 200: 407 left over by 9", x.layers(2, 200), 1 << 2);
        Due.due("a late one behind 199", x.layers(3, 199), 1 << 108 % 9);
        Due.due("a late one behind 200", x.layers(3, 200), 1 << 108 % 9);
        Due.due("a baker behind 0", x.layers(4, 0), 256);
        Due.due("a baker behind 14: seven heard", x.layers(4, 14), 0b101111111);
        Due.due("a baker behind 15: on all", x.layers(4, 15), 511);
        Due.due("a baker behind 200", x.layers(4, 200), 511);
        Due.due("behind 201", x.layers(0, 201), OUTSIDE);
        Due.due("behind -1", x.layers(0, -1), OUTSIDE);
        x.dawn(1);
        Due.due("a late one from an odd day, behind 1", x.layers(3, 1), 1);
        Due.due("a late one from an odd day, behind 2", x.layers(3, 2), 2);
    }

    /** A single person can take 176 dawns at most to come to a layer, so the bound of 200 itself is never met. */
    private static void firstBehind0To200() {
        Due.sentence("FIRST: behind how many DAWNS (0 .. 200) a PERSON is on a LAYER first");
        GiltCockcrow x = Due.in("n9 0;p4 0 1;m1,2,2,2,2,2,2,2,2,2,2;");
        // it hears on days 0, 22 .. 154
        Due.due("now", x.first(0, 0), 0);
        for (int l = 1; l <= 8; l++) {
            Due.due("first(0, " + l + ")", x.first(0, l), 22 * (l - 1) + 1);
        }
        x.dawn(1);
        for (int l = 0; l <= 8; l++) {
            int more = (l + 8) % 9;
            Due.due("from day 1, layer " + l, x.first(0, l), more == 0 ? 0 : 22 * more);
        }
        Due.due("no such layer", x.first(0, 9), UNKNOWN);
        Due.due("no such person", x.first(1, 0), UNKNOWN);
    }

    private static void firstNone() {
        Due.sentence("a PERSON is on a LAYER first; NONE");
        GiltCockcrow x = Due.in("n8 0;p0 0 0;p1 0 9;p1 1 9;p4 0 9;p2 0 4;m9,5;");
        for (int l = 0; l < 8; l++) {
            Due.due("one who hears nothing", x.first(0, l), l == 0 ? 0 : NONE);
            Due.due("a nun of the even ones", x.first(1, l), l % 2 == 0 ? l / 2 : NONE);
            Due.due("a nun of the odd ones", x.first(2, l), l % 2 == 1 ? l / 2 : NONE);
            Due.due("a baker who hears nothing", x.first(4, l), l == 0 ? 0 : NONE);
        }
        GiltCockcrow odd = Due.in("n2 0;p4 0 5;m9,5;");
        Due.due("a late one who hears on odd days alone", odd.first(0, 1), NONE);
    }

    /** A late one, one who stays, and a baker: all three are on layer 4 on day 201 first. */
    private static void togetherBehind0To200() {
        Due.sentence("TOGETHER: behind how many DAWNS (0 .. 200) all PERSONS of a SET have one LAYER in common first; NONE.");
        GiltCockcrow x = Due.in("n9 0;p2 0 7;p4 3 8;p0 4 0;m9,9,2,9,9,9,9,9,9,9,9;");
        // the late one goes on on days 2, 24 ..: to 4 behind 3 dawns, and again behind 201; the baker behind 36
        Due.due("the late one and the one who stays", x.together(0b110), 3);
        Due.due("the baker and the one who stays", x.together(0b101), 36);
        Due.due("behind 201 it is too late", x.together(0b111), NONE);
        x.dawn(1);
        Due.due("behind 200", x.together(0b111), 200);
        x.dawn(1);
        Due.due("behind 199", x.together(0b111), 199);
        x.undo();
        x.undo();
        Due.due("from day 0 again", x.together(0b111), NONE);
        for (int i = 0; i < 3; i++) {
            x.dawn(60);
        }
        x.dawn(20);
        Due.due("behind 1", x.together(0b111), 1);
        x.dawn(1);
        Due.due("behind 0", x.together(0b111), 0);
    }

    private static void togetherOfNobody() {
        Due.sentence("TOGETHER (nobody: 0)");
        Due.due("in a town of nobody", Due.in("n2 0;").together(0), 0);
        Due.due("in a town", Due.in("n2 0;p0 0 0;p0 1 0;").together(0), 0);
        for (int p = 0; p < 8; p++) {
            Due.due("one alone", Due.in(EIGHT_BAKERS).together(1 << p), 0);
        }
    }

    private static void togetherNone() {
        Due.sentence("have one LAYER in common first; NONE");
        GiltCockcrow x = Due.in("n9 0;p0 0 9;p0 8 9;p0 4 0;p3 1 9;");
        Due.due("they go alike", x.together(0b0011), NONE);
        Due.due("pairs alone are not enough", x.together(0b0111), NONE);
        Due.due("0 and 2", x.together(0b0101), 4);
        Due.due("1 and 2", x.together(0b0110), 5);
        Due.due("a lad comes the other way: 1 less 5 is 5 left over by 9", x.together(0b1001), 5);
    }

    private static void setsOfPersons() {
        Due.sentence("bits of such");
        StringBuilder text = new StringBuilder("n2 0;");
        for (int many = 0; many <= 8; many++) {
            GiltCockcrow x = Due.in(text.toString());
            int all = (1 << many) - 1;
            Due.due("all of " + many, x.together(all), 0);
            Due.due("all of " + many + ", crows", x.crows(all, 0), 0);
            for (int bit = many; bit < 32; bit++) {
                Due.due("bit " + bit + " of " + many, x.together(1 << bit), UNKNOWN);
                Due.due("bit " + bit + " besides", x.crows(1 << bit | all, 1), UNKNOWN);
            }
            text.append("p0 0 0;");
        }
    }

    private static void asNowFrom1() {
        Due.sentence("AS NOW: behind how many DAWNS (1 .. 2000) all PERSONS are first on just the LAYERS where they are now");
        Due.due("nobody", Due.in("n2 0;").asNow(), 1);
        Due.due("none who hears", Due.in("n9 0;p0 0 4;p1 1 0;p2 2 4;p3 3 0;p4 4 4;").asNow(), 1);
        Due.due("a nun of two layers", Due.in("n2 0;p1 0 9;").asNow(), 1);
        Due.due("a late one on day 0", Due.in("n2 0;p4 0 9;").asNow(), 3);
        GiltCockcrow late = Due.in("n2 0;p4 0 9;");
        late.dawn(1);
        Due.due("a late one on day 1", late.asNow(), 1);
        for (int n = 2; n <= 9; n++) {
            Due.due("anybody of " + n, Due.in("n" + n + " 0;p0 0 9;").asNow(), n);
            Due.due("a lad of " + n, Due.in("n" + n + " 0;p3 0 9;").asNow(), n);
            Due.due("a nun of " + n, Due.in("n" + n + " 0;p1 0 9;").asNow(), n % 2 == 0 ? n / 2 : n);
            Due.due("a late one of " + n, Due.in("n" + n + " 0;p4 0 9;").asNow(), 2 * n - 1);
        }
        GiltCockcrow first = Due.in("n3 0;p0 0 5;m5,9,9;");
        Due.due("it must be just so for all, behind one dawn at least", first.asNow(), 7);
        first.dawn(1);
        Due.due("while it is not heard", first.asNow(), 1);
        GiltCockcrow baker = Due.in("n3 0;p2 0 9;");
        baker.dawn(1);
        Due.due("a baker on two of three", baker.asNow(), NONE);
        baker.dawn(1);
        Due.due("a baker on all", baker.asNow(), 1);
    }

    /** Nothing takes more than 198 dawns to come around (9 times 22), so the bound of 2000 itself is never met. */
    private static void asNowFarthest() {
        Due.sentence("behind how many DAWNS (1 .. 2000)");
        // the late one has heard nine behind 177 dawns, and stays so until 198; the other has heard 36 just behind 198
        GiltCockcrow x = Due.in("n9 0;p4 0 1;p0 0 2;m1,3,3,3,3,3,3,3,3,3,2;");
        Due.due("9 times 22", x.asNow(), 198);
        Due.due("by itself", Due.in("n9 0;p4 0 1;m1,3,3,3,3,3,3,3,3,3,2;").asNow(), 177);
    }

    private static void asNowNone() {
        Due.sentence("AS NOW; NONE.");
        for (int n = 2; n <= 9; n++) {
            GiltCockcrow x = Due.in("n" + n + " 0;p2 0 5;p0 0 9;");
            for (int day = 0; day < n - 1; day++) {
                Due.due("a baker who is not yet on all", x.asNow(), NONE);
                x.dawn(1);
            }
            Due.due("a baker who is on all", x.asNow(), n);
        }
    }

    private static void fiveCrowsAtMost() {
        Due.sentence("CROWS: the fewest CROWS out of time (5 at most) by which all PERSONS of a SET have one LAYER in common");
        int lights = 0;
        for (int many = 0; many <= 8; many++) {
            GiltCockcrow x = Due.in("n9 0;p0 0 9;p0 " + many + " 0;");
            boolean reached = many <= 5;
            Due.due(many + " crows", x.crows(0b11, 0), reached ? many : NONE);
            Due.due("the LIGHTS of " + many, x.crows(0b11, 1), reached ? lights : NONE);
            lights = lights * 10 + 1;
        }
        GiltCockcrow lad = Due.in("n9 0;p3 0 9;p0 4 0;p0 3 0;");
        Due.due("a lad by five", lad.crows(0b011, 1), 11111);
        Due.due("a lad by six", lad.crows(0b101, 0), NONE);
        GiltCockcrow nun = Due.in("n9 0;p1 0 9;p0 1 0;p0 3 0;");
        Due.due("a nun by five", nun.crows(0b011, 1), 11111);
        Due.due("a nun by six", nun.crows(0b101, 1), NONE);
        GiltCockcrow baker = Due.in("n9 0;p2 8 9;p0 4 0;p0 5 0;");
        Due.due("a baker by five", baker.crows(0b011, 1), 11111);
        Due.due("a baker by six", baker.crows(0b101, 1), NONE);
        GiltCockcrow late = Due.in("n9 0;p4 8 9;p0 4 0;p0 5 0;");
        Due.due("a late one by five", late.crows(0b011, 1), 11111);
        Due.due("a late one by six", late.crows(0b101, 1), NONE);
        late.dawn(1);
        late.step(0, 3);
        Due.due("on an odd day never", late.crows(0b011, 0), NONE);
    }

    private static void noCrowIsNeeded() {
        Due.sentence("0: none is needed");
        GiltCockcrow x = Due.in("n2 0;p0 0 9;p0 0 9;p0 1 9;");
        Due.due("they are together", x.crows(0b011, 0), 0);
        Due.due("no LIGHTS", x.crows(0b011, 1), 0);
        Due.due("nobody", x.crows(0, 0), 0);
        Due.due("nobody's LIGHTS", x.crows(0, 1), 0);
        Due.due("one alone", x.crows(0b100, 0), 0);
        Due.due("one alone, LIGHTS", x.crows(0b100, 1), 0);
        Due.due("in a town of nobody", Due.in("n2 0;").crows(0, 1), 0);
    }

    private static void theLeastLights() {
        Due.sentence("the LIGHTS (figures, one behind the other; of like ones the least number");
        for (int ear = 0; ear <= 8; ear++) {
            int light = ear + 1;
            GiltCockcrow x = Due.in("n9 0;p0 0 9;p0 1 " + ear + ";p0 5 " + ear + ";p0 3 " + ear + ";");
            Due.due("one that the first alone hears", x.crows(0b0011, 1), light);
            Due.due("five such", x.crows(0b0101, 1), light * 11111);
            Due.due("three such", x.crows(0b1001, 1), light * 111);
        }
        GiltCockcrow alike = Due.in("n9 0;p0 0 9;p0 1 9;");
        Due.due("both hear all", alike.crows(0b11, 1), NONE);
        GiltCockcrow chain = Due.in("n9 0;p0 0 9;p0 1 8;p0 2 7;p0 3 6;p0 4 5;p0 5 4;");
        Due.due("each one's own light, rising", chain.crows(0b111111, 1), 56789);
        Due.due("how many", chain.crows(0b111111, 0), 5);
        GiltCockcrow two = Due.in("n3 0;p0 0 5;p0 1 2;p0 0 0;");
        Due.due("a light for both, and one for the first", two.crows(0b111, 0), 3);
        Due.due("the least first", two.crows(0b111, 1), 113);
    }

    private static void crowsNone() {
        Due.sentence("0: none is needed); NONE.");
        GiltCockcrow x = Due.in("n9 0;p0 0 0;p0 1 0;");
        Due.due("none hears", x.crows(0b11, 0), NONE);
        Due.due("none hears, LIGHTS", x.crows(0b11, 1), NONE);
        GiltCockcrow nuns = Due.in("n8 0;p1 0 9;p1 1 0;");
        Due.due("even and odd", nuns.crows(0b11, 0), NONE);
        Due.due("even and odd, LIGHTS", nuns.crows(0b11, 1), NONE);
    }

    private static void knowToDepth0To9() {
        Due.sentence("KNOW to depth k (0 .. 9) of a PERSON's doing: to depth 0 that PERSON alone");
        GiltCockcrow x = Due.in("n9 1;p0 0 0;p0 1 0;p0 2 0;p0 3 0;p0 4 0;p0 5 0;p0 6 0;p0 7 0;");
        for (int p = 0; p < 8; p++) {
            int want = 0;
            for (int k = 0; k <= 9; k++) {
                want |= p + k < 8 ? 1 << p + k : 0;
                Due.due("know(" + p + ", " + k + ")", x.know(p, k), want);
            }
            Due.due("know(" + p + ", 10)", x.know(p, 10), OUTSIDE);
            Due.due("know(" + p + ", -1)", x.know(p, -1), OUTSIDE);
        }
        GiltCockcrow alike = Due.in("n2 0;p0 1 0;p0 1 0;");
        Due.due("to depth 0 that one alone, though another is there", alike.know(0, 0), 0b01);
        Due.due("to depth 1 both", alike.know(0, 1), 0b11);
    }

    private static void knowComesAround() {
        Due.sentence("all who are on a LAYER where something that one of these does now would be SEEN");
        for (int n = 2; n <= 8; n++) {
            StringBuilder text = new StringBuilder("n" + n + " " + (n - 1) + ";");
            for (int p = 0; p < n; p++) {
                text.append("p0 ").append(p).append(" 0;");
            }
            GiltCockcrow x = Due.in(text.toString());
            int want = 0;
            for (int k = 0; k <= 9; k++) {
                want |= 1 << (n - k % n) % n;
                Due.due("know(0, " + k + ") of " + n, x.know(0, k), want);
            }
        }
        // what was marked is nothing to it: what would be done now is
        GiltCockcrow x = Due.in("n9 1;p0 0 0;p0 5 0;");
        x.step(0, 4);
        x.deed(0);
        x.step(0, 0);
        Due.due("old marks", x.know(0, 1), 0b01);
    }

    private static void marketOfNone() {
        Due.sentence("MARKET: x = NONE how many, else the PERSON of a LAYER; NONE.");
        Due.due("no TOWN", new GiltCockcrow().market(NONE), 0);
        for (int n = 2; n <= 9; n++) {
            GiltCockcrow nobody = Due.in("n" + n + " 0;");
            Due.due("nobody", nobody.market(NONE), 0);
            GiltCockcrow x = Due.in("n" + n + " 0;p0 " + (n - 1) + " 0;");
            Due.due("one", x.market(NONE), 1);
            for (int l = 0; l < n; l++) {
                Due.due("nobody on " + l, nobody.market(l), NONE);
                Due.due("one, market(" + l + ")", x.market(l), l == n - 1 ? 0 : NONE);
            }
            Due.due("market(" + n + ")", x.market(n), UNKNOWN);
            Due.due("market(-2)", x.market(-2), UNKNOWN);
        }
    }

    private static void mostLayers() {
        Due.sentence("each LAYER gets a PERSON who is on it, unlike ones, or none: the most LAYERS");
        for (int n = 2; n <= 9; n++) {
            GiltCockcrow x = Due.in(EIGHT_BAKERS.replace("n9", "n" + n));
            for (int day = 0; day <= 9; day++) {
                int reached = Math.min(day + 1, n);
                Due.due("N " + n + " behind " + day, x.market(NONE), Math.min(reached, 8));
                x.dawn(1);
            }
        }
        // 0 on 0 and 1, 1 on 0, 2 on 1 and 2, 3 on 2: the three of 0 .. 2 have one each
        GiltCockcrow y = Due.in("n4 0;p2 0 9;p0 0 0;p2 1 9;p0 2 0;");
        y.crow(9);
        Due.due("three layers", y.market(NONE), 3);
        Due.due("market(0)", y.market(0), 0);
        Due.due("market(1)", y.market(1), 2);
        Due.due("market(2)", y.market(2), 3);
        Due.due("market(3)", y.market(3), NONE);
    }

    private static void theFirstMarket() {
        Due.sentence("of like ones the first (LAYER by LAYER the lesser PERSON, none last)");
        // two persons, both on 0, 1 and 2: layers 0 and 1 have one, 2 has none
        GiltCockcrow x = Due.in("n3 0;p2 0 9;p2 0 9;");
        x.dawn(2);
        Due.due("how many", x.market(NONE), 2);
        Due.due("market(0)", x.market(0), 0);
        Due.due("market(1)", x.market(1), 1);
        Due.due("none last", x.market(2), NONE);
        // 0 is on 0 and 1, 1 on 0: 0 first would leave 1 without; it is the most that comes ahead of the first
        GiltCockcrow y = Due.in("n2 0;p2 0 9;p0 0 0;");
        y.crow(9);
        Due.due("how many", y.market(NONE), 2);
        Due.due("market(0)", y.market(0), 1);
        Due.due("market(1)", y.market(1), 0);
        // one person on both: the first layer has it
        GiltCockcrow z = Due.in("n2 0;p2 1 9;");
        z.crow(9);
        Due.due("how many", z.market(NONE), 1);
        Due.due("market(0)", z.market(0), 0);
        Due.due("market(1)", z.market(1), NONE);
    }

    private static void tornOfTwo() {
        Due.sentence("of one LAYER and another one: PERSONS who are on both");
        GiltCockcrow x = Due.in("n9 0;p2 8 9;p2 7 9;p0 8 0;p0 0 0;p2 8 9;p2 8 9;p2 8 9;p2 8 9;");
        Due.due("none is", x.torn(8, 0), 0);
        x.crow(9);
        Due.due("the last and the first", x.torn(8, 0), 0b11110001);
        Due.due("the first and the last", x.torn(0, 8), 0b11110001);
        Due.due("the last two", x.torn(7, 8), 0b00000010);
        Due.due("one twice", x.torn(8, 8), UNKNOWN);
        Due.due("one more", x.torn(8, 9), UNKNOWN);
        Due.due("one less", x.torn(-1, 0), UNKNOWN);
    }

    private static void darkBounds() {
        Due.sentence("DARK: odds of n dark dawns (0 .. 60), each by q of a hundred (0 .. 100)");
        GiltCockcrow x = new GiltCockcrow();
        for (int q = 0; q <= 100; q++) {
            Due.due("none, by " + q, x.dark(0, q), 1000000000);
            Due.due("one, by " + q, x.dark(1, q), q * 10000000);
        }
        for (int n = 1; n <= 60; n++) {
            Due.due(n + " by 0", x.dark(n, 0), 0);
            Due.due(n + " by 100", x.dark(n, 100), 1000000000);
        }
        Due.due("dark(-1, 50)", x.dark(-1, 50), OUTSIDE);
        Due.due("dark(61, 50)", x.dark(61, 50), OUTSIDE);
        Due.due("dark(1, -1)", x.dark(1, -1), OUTSIDE);
        Due.due("dark(1, 101)", x.dark(1, 101), OUTSIDE);
        Due.due("in a town, too", Due.in("n2 0;").dark(1, 50), 500000000);
    }

    private static void darkIsCut() {
        Due.sentence("a BILLION times q / 100 each (cut)");
        GiltCockcrow x = new GiltCockcrow();
        for (int q = 0; q <= 100; q++) {
            long odds = 1000000000L;
            for (int n = 0; n <= 60; n++) {
                Due.due("dark(" + n + ", " + q + ")", x.dark(n, q), odds);
                odds = (odds * q - odds * q % 100) / 100;
            }
        }
        Due.due("cut at each of eleven: cut once it would be 5054", x.dark(11, 33), 5053);
        Due.due("cut to nothing", x.dark(5, 1), 0);
        Due.due("the least that is left", x.dark(4, 1), 10);
    }
}
