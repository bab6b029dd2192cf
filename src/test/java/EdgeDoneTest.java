/** The edges of what is done and undone, sentence by sentence: section 2 of the document, promises 8 to 16. */
public final class EdgeDoneTest {
    private static final int UNKNOWN = GiltCockcrow.UNKNOWN;
    private static final int OUTSIDE = GiltCockcrow.OUTSIDE;
    private static final int NOT = GiltCockcrow.NOT;
    private static final int FULL = GiltCockcrow.FULL;

    private EdgeDoneTest() {
    }

    public static void main(String[] args) {
        neverNone();
        everyKindComesAround();
        aBakerComesAround();
        heardByEar();
        heardAtDawn();
        lateOnEvenDays();
        lateAtDawn();
        heardAtMost999999();
        daysAndTheirLight();
        daysStayByACrow();
        stepsToOneAlone();
        leavesIfOnOthers();
        earBecomesAnother();
        marksAreOnAllLayersBesides();
        marksStay();
        wiped();
        seenOnTheSignsLayer();
        oneTo60Dawns();
        dawnsAbove9000();
        undoneAbove9000();
        driftsAbove9000();
        oneTo60Drifts();
        theSeedOfADraw();
        everyDraw();
        noDrawForNobody();
        sixteenAreKept();
        eachIsOne();
        refusedOnesAreNotKept();
        theSeedStaysUndone();
        Due.end();
    }

    private static void neverNone() {
        Due.sentence("A PERSON is on LAYERS (a SET of LAYERS, never none), at first on X alone.");
        for (int n = 2; n <= 9; n++) {
            GiltCockcrow x = Due.in("n" + n + " 0;p2 0 9;");
            Due.due("at first", x.person(0, 1), 1);
            x.dawn(n);
            int left = (1 << n) - 1;
            Due.due("on all", x.person(0, 1), left);
            for (int l = 0; l < n - 1; l++) {
                left -= 1 << l;
                Due.due("leave(0, " + l + ")", x.leave(0, l), left);
                Due.due("LAYERS", x.person(0, 1), left);
            }
            Due.due("the last one", x.leave(0, n - 1), NOT);
            Due.due("LAYERS", x.person(0, 1), 1 << n - 1);
        }
    }

    private static int behind(int kind, int layer, int n) {
        switch (kind) {
            case 1: return 1 << (layer + 2) % n;
            case 2: return 1 << layer | 1 << (layer + 1) % n;
            case 3: return 1 << (layer + n - 1) % n;
            default: return 1 << (layer + 1) % n;
        }
    }

    private static void everyKindComesAround() {
        Due.sentence("A SET of LAYERS goes k ON: each LAYER becomes the one k more, left over by N.");
        for (int n = 2; n <= 9; n++) {
            for (int kind = 0; kind <= 4; kind++) {
                for (int layer = 0; layer < n; layer++) {
                    String text = "n" + n + " 0;p" + kind + " " + layer + " 9;";
                    GiltCockcrow x = Due.in(text);
                    Due.due("crow(9) in " + text, x.crow(9), 1);
                    Due.due("LAYERS behind a crow in " + text, x.person(0, 1), behind(kind, layer, n));
                    GiltCockcrow y = Due.in(text);
                    y.dawn(1);
                    Due.due("LAYERS behind a dawn in " + text, y.person(0, 1), behind(kind, layer, n));
                }
            }
        }
    }

    private static void aBakerComesAround() {
        Due.sentence("2 (baker): LAYERS stay, those 1 ON come to them.");
        for (int n = 2; n <= 9; n++) {
            for (int layer = 0; layer < n; layer++) {
                GiltCockcrow x = Due.in("n" + n + " 0;p2 " + layer + " 9;");
                int want = 1 << layer;
                for (int i = 1; i <= n + 2; i++) {
                    want |= 1 << (layer + i) % n;
                    x.crow(1);
                    Due.due("behind " + i + " crows, N " + n, x.person(0, 1), want);
                }
            }
        }
        GiltCockcrow x = Due.in("n7 0;p2 0 9;");
        x.dawn(6);
        x.leave(0, 1);
        x.leave(0, 2);
        x.leave(0, 3);
        x.leave(0, 5);
        Due.due("on 0, 4 and 6", x.person(0, 1), 0b1010001);
        x.crow(1);
        Due.due("1 and 5 come, 6 brings 0", x.person(0, 1), 0b1110011);
    }

    private static void heardByEar() {
        Due.sentence("A CROW of LIGHT x is HEARD by each whose EAR is x or more");
        for (int light = 1; light <= 9; light++) {
            GiltCockcrow low = Due.in("n9 0;p0 0 0;p0 0 1;p0 0 2;p0 0 3;p0 0 4;");
            GiltCockcrow high = Due.in("n9 0;p0 0 5;p0 0 6;p0 0 7;p0 0 8;p0 0 9;");
            int heardLow = 0;
            int heardHigh = 0;
            for (int ear = light; ear <= 9; ear++) {
                heardLow |= ear < 5 ? 1 << ear : 0;
                heardHigh |= ear >= 5 ? 1 << ear - 5 : 0;
            }
            Due.due("who hears " + light, low.crow(light), heardLow);
            Due.due("who of the others hears " + light, high.crow(light), heardHigh);
            for (int ear = 0; ear <= 9; ear++) {
                GiltCockcrow x = ear < 5 ? low : high;
                Due.due("LAYERS of ear " + ear, x.person(ear % 5, 1), ear >= light ? 2 : 1);
                Due.due("HEARD of ear " + ear, x.person(ear % 5, 3), ear >= light ? 1 : 0);
            }
        }
    }

    private static void heardAtDawn() {
        Due.sentence("A DAWN: there is a CROW of that DAY's LIGHT");
        for (int light = 1; light <= 9; light++) {
            for (int ear = 0; ear <= 9; ear++) {
                GiltCockcrow x = Due.in("n9 0;p0 8 " + ear + ";m" + light + ";");
                x.dawn(1);
                Due.due("light " + light + ", ear " + ear, x.person(0, 1), ear >= light ? 1 : 256);
                Due.due("HEARD", x.person(0, 3), ear >= light ? 1 : 0);
            }
        }
    }

    private static void lateOnEvenDays() {
        Due.sentence("4 (late): 1 ON, on DAYS of an even number alone.");
        GiltCockcrow x = Due.in("n9 0;p4 0 8;m9;");
        for (int day = 0; day <= 7; day++) {
            int before = x.person(0, 1);
            Due.due("who HEARS on DAY " + day, x.crow(8), 1);
            int want = day % 2 != 0 ? before : before == 256 ? 1 : before * 2;
            Due.due("LAYERS on DAY " + day, x.person(0, 1), want);
            Due.due("HEARD on DAY " + day, x.person(0, 3), day + 1);
            x.dawn(1);
            Due.due("a dawn that is not heard", x.person(0, 1), want);
        }
    }

    private static void lateAtDawn() {
        Due.sentence("(late): 1 ON, on DAYS of an even number alone");
        GiltCockcrow x = Due.in("n9 0;p4 0 5;");
        for (int day = 0; day <= 40; day++) {
            Due.due("LAYERS on DAY " + day, x.person(0, 1), 1 << (day + 1) / 2 % 9);
            Due.due("HEARD on DAY " + day, x.person(0, 3), day);
            x.dawn(1);
        }
    }

    /** The document leaves free what an object answers behind 512 calls; within them nobody can hear so often. */
    private static void heardAtMost999999() {
        Due.sentence("How often a PERSON HEARD is counted (999999 at most).");
        GiltCockcrow x = Due.in("n7 0;p0 0 9;p1 0 8;");
        for (int i = 1; i <= 999998; i++) {
            x.crow(9);
        }
        Due.due("HEARD", x.person(0, 3), 999998);
        int layer = 999998 % 7;
        for (int i = 999999; i <= 1000003; i++) {
            x.crow(8);
            Due.due("HEARD", x.person(0, 3), 999999);
            layer = (layer + 1) % 7;
            Due.due("it goes on", x.person(0, 1), 1 << layer);
        }
        x.dawn(1);
        Due.due("HEARD behind a dawn", x.person(0, 3), 999999);
        Due.due("HEARD of the other", x.person(1, 3), 6);
        for (int i = 0; i < 6; i++) {
            x.undo();
        }
        Due.due("HEARD undone", x.person(0, 3), 999998);
    }

    private static void daysAndTheirLight() {
        Due.sentence("DAYS (0 at first) are one more.");
        GiltCockcrow x = Due.in("n9 0;p0 0 1;m9,1,9;");
        int[] layers = {0, 0, 1, 1, 1, 2, 2, 2, 3};
        for (int day = 0; day < layers.length; day++) {
            Due.due("DAYS", x.told(4), day);
            Due.due("LAYERS on DAY " + day, x.person(0, 1), 1 << layers[day]);
            Due.due("dawn(1)", x.dawn(1), day + 1);
        }
    }

    private static void daysStayByACrow() {
        Due.sentence("A CROW out of time: DAYS stay.");
        GiltCockcrow x = Due.in("n9 0;p0 0 9;m1,2;");
        for (int day = 0; day <= 3; day++) {
            for (int light = 1; light <= 9; light++) {
                x.crow(light);
                Due.due("DAYS", x.told(4), day);
                Due.due("LIGHT", x.told(5), 1 + day % 2);
            }
            x.dawn(1);
        }
    }

    private static void stepsToOneAlone() {
        Due.sentence("A PERSON STEPS to one LAYER alone");
        for (int n = 2; n <= 9; n++) {
            GiltCockcrow x = Due.in("n" + n + " 0;p2 0 9;p2 0 9;");
            x.dawn(n);
            Due.due("to the last", x.step(1, n - 1), (1 << n) - 1);
            Due.due("LAYERS", x.person(1, 1), 1 << n - 1);
            Due.due("to where it is", x.step(1, n - 1), 1 << n - 1);
            Due.due("LAYERS", x.person(1, 1), 1 << n - 1);
            Due.due("to the first", x.step(1, 0), 1 << n - 1);
            Due.due("LAYERS", x.person(1, 1), 1);
            Due.due("one more than the last", x.step(1, n), UNKNOWN);
            Due.due("one less than the first", x.step(1, -1), UNKNOWN);
            Due.due("around", x.step(1, 33), UNKNOWN);
            Due.due("nobody", x.step(2, 0), UNKNOWN);
            Due.due("the other stays", x.person(0, 1), (1 << n) - 1);
            Due.due("HEARD stays", x.person(1, 3), n);
            Due.due("DAYS stay", x.told(4), n);
            Due.due("what can be undone", x.told(15), 4);
        }
    }

    private static void leavesIfOnOthers() {
        Due.sentence("LEAVES a LAYER, if it is on others, too");
        GiltCockcrow x = Due.in("n9 0;p2 8 9;p0 3 9;");
        Due.due("on that alone", x.leave(0, 8), NOT);
        Due.due("not on that", x.leave(0, 0), NOT);
        Due.due("not on that, the last but one", x.leave(0, 7), NOT);
        x.crow(9);
        Due.due("on two, not on that", x.leave(0, 1), NOT);
        Due.due("on two: the last", x.leave(0, 8), 0b1);
        Due.due("again", x.leave(0, 8), NOT);
        Due.due("on that alone", x.leave(0, 0), NOT);
        Due.due("anybody, on that alone", x.leave(1, 4), NOT);
        Due.due("no such layer", x.leave(0, 9), UNKNOWN);
        Due.due("a layer around", x.leave(0, 32), UNKNOWN);
        Due.due("nobody", x.leave(2, 0), UNKNOWN);
    }

    private static void earBecomesAnother() {
        Due.sentence("an EAR becomes another");
        GiltCockcrow x = Due.in("n9 0;p0 0 9;p0 0 3;");
        Due.due("to 0", x.ear(0, 0), 9);
        for (int light = 1; light <= 9; light++) {
            Due.due("0 hears nothing", x.crow(light) & 1, 0);
        }
        Due.due("to 9", x.ear(0, 9), 0);
        Due.due("to the same", x.ear(0, 9), 9);
        for (int light = 1; light <= 9; light++) {
            Due.due("9 hears all", x.crow(light) & 1, 1);
        }
        Due.due("to 10", x.ear(0, 10), OUTSIDE);
        Due.due("to -1", x.ear(0, -1), OUTSIDE);
        Due.due("EAR", x.person(0, 2), 9);
        Due.due("the other's EAR", x.person(1, 2), 3);
        Due.due("of nobody", x.ear(2, 0), UNKNOWN);
    }

    private static void marksAreOnAllLayersBesides() {
        Due.sentence("DONE by a PERSON: MARKS (a SET of LAYERS, none at first) are on all its LAYERS besides");
        GiltCockcrow x = Due.in("n9 0;p2 8 9;p0 4 0;p0 8 0;");
        Due.due("none at first", x.told(6), 0);
        Due.due("by one on the last layer", x.deed(2), 256);
        x.crow(1);
        Due.due("by one on two, one marked already", x.deed(0), 257);
        Due.due("again", x.deed(0), 257);
        Due.due("by another", x.deed(1), 273);
        Due.due("MARKS", x.told(6), 273);
        x.step(0, 0);
        x.dawn(8);
        Due.due("by one on all", x.deed(0), 511);
    }

    private static void marksStay() {
        Due.sentence("are on all its LAYERS besides");
        GiltCockcrow x = Due.in("n3 1;p0 0 9;");
        x.deed(0);
        x.dawn(1);
        x.crow(1);
        x.step(0, 1);
        Due.due("MARKS stay where they are", x.told(6), 0b001);
        Due.due("and another", x.deed(0), 0b011);
    }

    private static void wiped() {
        Due.sentence("WIPED: there are none.");
        GiltCockcrow x = Due.in("n9 1;p0 8 9;");
        Due.due("none were", x.wipe(), 0);
        x.deed(0);
        Due.due("what they were", x.wipe(), 256);
        Due.due("MARKS", x.told(6), 0);
        Due.due("SEEN", x.told(7), 0);
        Due.due("again", x.wipe(), 0);
        Due.due("what can be undone: those of none, too", x.told(15), 4);
        Due.due("nobody is needed", Due.in("n2 0;").wipe(), 0);
    }

    private static void seenOnTheSignsLayer() {
        Due.sentence("What is DONE on a LAYER is SEEN on the LAYER S ON of it.");
        for (int n = 2; n <= 9; n++) {
            for (int s = 0; s < n; s++) {
                for (int set = 0; set < 1 << n; set++) {
                    GiltCockcrow x = Due.in("n" + n + " " + s + ";p0 0 0;");
                    int seen = 0;
                    for (int l = 0; l < n; l++) {
                        if ((set >> l & 1) == 1) {
                            x.step(0, l);
                            x.deed(0);
                            seen |= 1 << (l + s) % n;
                        }
                    }
                    Due.due("MARKS", x.told(6), set);
                    Due.due("SEEN by " + s + " of " + n, x.told(7), seen);
                }
            }
        }
    }

    private static void oneTo60Dawns() {
        Due.sentence("n DAWNS (1 .. 60): DAYS.");
        for (int n : new int[] {1, 2, 59, 60}) {
            GiltCockcrow x = Due.in(Due.TOWN);
            GiltCockcrow y = Due.in(Due.TOWN);
            x.keep(0);
            Due.due("dawn(" + n + ")", x.dawn(n), n);
            Due.due("it is one", x.told(15), 1);
            for (int i = 1; i <= n; i++) {
                Due.due("dawn(1)", y.dawn(1), i);
            }
            x.keep(0);
            y.keep(0);
            Edge.same("as one by one", x, y);
        }
        Due.due("dawn(0)", Due.in(Due.TOWN).dawn(0), OUTSIDE);
        Due.due("dawn(61)", Due.in(Due.TOWN).dawn(61), OUTSIDE);
    }

    private static GiltCockcrow onDay(int day) {
        GiltCockcrow x = Due.in("n7 0;p0 0 9;p4 3 9;m5,6,7,8,9,1,2;");
        for (int left = day; left > 0; left -= 60) {
            x.dawn(Math.min(left, 60));
        }
        return x;
    }

    private static void dawnsAbove9000() {
        Due.sentence("OUTSIDE, NOT: no TOWN; FULL: DAYS are above 9000.");
        Due.due("on 8999", onDay(8999).dawn(1), 9000);
        Due.due("60 on 8999", onDay(8999).dawn(60), 9059);
        Due.due("on 9000", onDay(9000).dawn(1), 9001);
        Due.due("60 on 9000", onDay(9000).dawn(60), 9060);
        Due.due("on 9001", onDay(9001).dawn(1), FULL);
        GiltCockcrow x = onDay(9000);
        x.dawn(60);
        Due.due("on 9060", x.dawn(1), FULL);
        Due.due("60 on 9060", x.dawn(60), FULL);
        Due.due("DAYS", x.told(4), 9060);
        Due.due("LIGHT", x.told(5), 7);
        Due.due("HEARD", x.person(0, 3), 9060);
        Due.due("LAYERS: 9060 left over by 7 is 2", x.person(0, 1), 1 << 2);
        Due.due("a crow", x.crow(9), 0b11);
        Due.due("the late one on an even day", x.person(1, 1), 1 << (3 + 4530 + 1) % 7);
        Due.due("tried from there", x.layers(0, 200), 1 << (3 + 200) % 7);
        Due.due("as now", x.asNow(), 14);
        Due.due("first", x.first(0, 2), 6);
    }

    private static void undoneAbove9000() {
        Due.sentence("FULL: DAYS are above 9000.");
        GiltCockcrow x = onDay(9000);
        x.keep(0);
        x.dawn(1);
        Due.due("on 9001", x.dawn(1), FULL);
        Due.due("undone", x.undo(), 0);
        Due.due("on 9000 again", x.dawn(2), 9002);
        Due.due("on 9002", x.drift(1), FULL);
        x.goBack(0);
        Due.due("on 9000 again", x.drift(2), 9002);
        Due.townOf(x, "n2 0;");
        Due.due("another town", x.dawn(60), 60);
    }

    private static void driftsAbove9000() {
        Due.sentence("n DAWNS (1 .. 60) BY DRAWS: DAYS. OUTSIDE, NOT: no TOWN; FULL: DAYS are above 9000.");
        Due.due("on 9000", onDay(9000).drift(1), 9001);
        Due.due("60 on 9000", onDay(9000).drift(60), 9060);
        GiltCockcrow x = onDay(9001);
        int seed = x.seed(5);
        Due.due("THE SEED", seed, 0);
        Due.due("on 9001", x.drift(1), FULL);
        Due.due("60 on 9001", x.drift(60), FULL);
        Due.due("no DRAW was made", x.seed(0), 5);
        Due.due("DAYS", x.told(4), 9001);
    }

    private static void oneTo60Drifts() {
        Due.sentence("n DAWNS (1 .. 60) BY DRAWS: DAYS.");
        for (int n : new int[] {1, 2, 59, 60}) {
            GiltCockcrow x = Due.in(Due.TOWN);
            GiltCockcrow y = Due.in(Due.TOWN);
            Due.due("drift(" + n + ")", x.drift(n), n);
            Due.due("it is one", x.told(15), 1);
            for (int i = 1; i <= n; i++) {
                Due.due("drift(1)", y.drift(1), i);
            }
            x.keep(0);
            y.keep(0);
            Edge.same("as one by one", x, y);
        }
        Due.due("drift(0)", Due.in(Due.TOWN).drift(0), OUTSIDE);
        Due.due("drift(61)", Due.in(Due.TOWN).drift(61), OUTSIDE);
    }

    private static int draw(long[] seed, int n) {
        seed[0] = (seed[0] * 1103515245L + 12345L) % 2147483648L;
        return (int) (seed[0] / 65536L % n);
    }

    /** One drift of one dawn, from any seed: what is drawn is done by other calls in a like town. */
    private static int compareDraws(String text, long from) {
        GiltCockcrow x = Due.in(text);
        GiltCockcrow y = Due.in(text);
        // there are marks ahead of it, where nobody is: a doing that is drawn comes besides
        x.step(0, 1);
        x.deed(0);
        x.step(0, 0);
        y.step(0, 1);
        y.deed(0);
        y.step(0, 0);
        x.seed((int) from);
        x.drift(1);
        long[] seed = {from};
        int what = draw(seed, 5);
        int p = draw(seed, y.told(2));
        switch (what) {
            case 0: y.step(p, draw(seed, y.told(0))); break;
            case 1: y.ear(p, draw(seed, 10)); break;
            case 2: y.deed(p); break;
            case 3: y.crow(1 + draw(seed, 9)); break;
            default: break;
        }
        y.dawn(1);
        y.seed((int) seed[0]);
        x.keep(0);
        y.keep(0);
        Edge.same("a drift from " + from + " in " + text, x, y);
        return what;
    }

    private static void theSeedOfADraw() {
        Due.sentence("THE SEED (0 at first: each DRAW it becomes it times 1103515245 and 12345, left over by 2 to the 31; "
                + "the DRAW of n is it / 65536, left over by n)");
        GiltCockcrow x = Due.in("n2 0;p0 0 0;");
        Due.due("0 at first", x.seed(0), 0);
        x.drift(1);
        // 12345, then 1406932606: both draws are small, the first of 5 is 0; so there is a third of 2
        Due.due("from 0 three draws", x.seed(2147483647), 654583775);
        for (long seed : new long[] {0, 1, 65535, 65536, 1073741823, 1073741824, 2147483646, 2147483647}) {
            compareDraws(Due.TOWN, seed);
            compareDraws("n9 8;p0 8 9;", seed);
        }
    }

    private static void everyDraw() {
        Due.sentence("on 0 it STEPS to a DRAW of LAYERS; on 1 its EAR becomes a DRAW of 10; on 2 it is DONE by it; "
                + "on 3 there is a CROW out of time of LIGHT 1, and a DRAW of 9.");
        int[] counts = new int[5];
        for (long i = 0; i < 1500; i++) {
            counts[compareDraws(i % 2 == 0 ? Due.TOWN : "n9 1;p4 8 1;p2 8 8;p1 8 9;m9;", i * 1431655 % 2147483648L)]++;
        }
        for (int what = 0; what < 5; what++) {
            Due.dueTrue("there was a draw of " + what, counts[what] > 100);
        }
    }

    private static void noDrawForNobody() {
        Due.sentence("ahead of each, if there are PERSONS, a DRAW of 5, of PERSONS");
        GiltCockcrow x = Due.in("n9 0;m3;");
        x.seed(1);
        Due.due("drift(60)", x.drift(60), 60);
        Due.due("what can be undone", x.told(15), 1);
        Due.due("THE SEED", x.seed(0), 1);
        Due.due("MARKS", x.told(6), 0);
        Due.due("undo()", x.undo(), 0);
        Due.due("DAYS", x.told(4), 0);
    }

    private static void sixteenAreKept() {
        Due.sentence("(16 at most are kept, the oldest are lost)");
        for (int many : new int[] {1, 15, 16, 17, 31, 32, 33, 50}) {
            GiltCockcrow x = Due.in("n9 0;p0 0 0;");
            for (int i = 1; i <= many; i++) {
                x.step(0, i * 2 % 9);
            }
            int kept = Math.min(many, 16);
            Due.due("what can be undone", x.told(15), kept);
            for (int i = 1; i <= kept; i++) {
                Due.due("undo()", x.undo(), kept - i);
                Due.due("LAYERS", x.person(0, 1), 1 << (many - i) * 2 % 9);
                Due.due("what can be undone", x.told(15), kept - i);
            }
            Due.due("undo() of none", x.undo(), NOT);
            Due.due("LAYERS", x.person(0, 1), 1 << (many - kept) * 2 % 9);
            x.step(0, 3);
            Due.due("a new one", x.undo(), 0);
            Due.due("LAYERS", x.person(0, 1), 1 << (many - kept) * 2 % 9);
        }
        GiltCockcrow y = Due.in("n9 0;p0 0 0;");
        for (int i = 1; i <= 20; i++) {
            y.step(0, i % 9);
            y.step(0, 8);
            Due.due("undone and done by turns", y.undo(), Math.min(i, 15));
            Due.due("LAYERS", y.person(0, 1), 1 << i % 9);
        }
    }

    private static void eachIsOne() {
        Due.sentence("UNDONE: the latest of dawn(), crow(), step(), leave(), ear(), deed(), wipe(), drift() that was not refused");
        Edge.Call[] calls = {
            x -> x.dawn(60), x -> x.crow(1), x -> x.step(2, 2), x -> x.leave(2, 2), x -> x.ear(5, 9), x -> x.deed(2),
            x -> x.wipe(), x -> x.drift(60), x -> x.crow(9), x -> x.step(0, 0), x -> x.ear(0, 5), x -> x.deed(0),
        };
        for (int i = 0; i < calls.length; i++) {
            GiltCockcrow x = Due.in(Due.TOWN);
            x.dawn(3);
            x.deed(4);
            x.keep(0);
            GiltCockcrow y = Due.in(Due.TOWN);
            y.dawn(3);
            y.deed(4);
            y.keep(0);
            Due.dueTrue("taken, " + i, calls[i].on(x) >= 0);
            Due.due("what can be undone, " + i, x.told(15), 1);
            Due.due("undo(), " + i, x.undo(), 0);
            x.seed(0);
            Edge.same("all of section 2 is as ahead of it, " + i, x, y);
        }
        GiltCockcrow x = Due.in(Due.TOWN);
        int[] others = {
            x.shadow(1, 1), x.met(0, 1, true), x.write(0, 0, true), x.tear(), x.seed(4), x.layers(0, 9), x.first(0, 4),
            x.together(1), x.asNow(), x.crows(3, 1), x.know(0, 2), x.market(0), x.torn(0, 1), x.dark(1, 1), x.judge(),
            x.feed('n'), x.fault(), x.is(0), x.told(0), x.person(0, 0), x.onLayer(0), x.undo(),
        };
        Due.due("none of the other " + others.length + " can be undone", x.told(15), 0);
    }

    private static void refusedOnesAreNotKept() {
        Due.sentence("that was not refused");
        GiltCockcrow x = Due.in(Due.TOWN);
        x.dawn(0);
        x.dawn(61);
        x.crow(0);
        x.crow(10);
        x.step(6, 0);
        x.step(0, 7);
        x.leave(0, 0);
        x.leave(0, 1);
        x.leave(6, 0);
        x.ear(0, 10);
        x.ear(6, 0);
        x.deed(6);
        x.drift(0);
        x.drift(61);
        Due.due("what can be undone", x.told(15), 0);
        Due.due("undo()", x.undo(), NOT);
        x.step(0, 5);
        x.dawn(61);
        x.deed(-1);
        Due.due("the latest that was taken", x.undo(), 0);
        Due.due("LAYERS", x.person(0, 1), 1);
    }

    private static void theSeedStaysUndone() {
        Due.sentence("all of section 2 is as ahead of it; THE SEED stays.");
        GiltCockcrow x = Due.in("n2 0;p0 0 0;");
        x.drift(1);
        Due.due("undo()", x.undo(), 0);
        Due.due("the seed of three draws", x.seed(9), 654583775);
        x.dawn(1);
        x.seed(10);
        x.undo();
        Due.due("a seed that was set between", x.seed(0), 10);
    }
}
