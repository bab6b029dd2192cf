/** Every refusal of every call: its bounds on either side, what it leaves as it was, and which of two comes first. */
public final class RefusalsTest {
    private static final int UNKNOWN = GiltCockcrow.UNKNOWN;
    private static final int OUTSIDE = GiltCockcrow.OUTSIDE;
    private static final int NOT = GiltCockcrow.NOT;
    private static final int FULL = GiltCockcrow.FULL;

    /** Of the town that most are tried in: persons 0 .. 5, layers 0 .. 6. */
    private static final int LAST_PERSON = 5;
    private static final int LAST_LAYER = 6;

    private RefusalsTest() {
    }

    public static void main(String[] args) {
        theStatesAreWhatTheyAreToBe();
        unknownIsAheadOfAll();
        outsideIsAheadOfNotAndFull();
        feed();
        told();
        person();
        onLayer();
        dawnsAndDrifts();
        crow();
        step();
        leave();
        ear();
        deed();
        wipe();
        undo();
        layers();
        first();
        together();
        asNow();
        crows();
        know();
        market();
        torn();
        dark();
        shadow();
        is();
        met();
        write();
        seed();
        keep();
        goBack();
        Due.end();
    }

    private static void theStatesAreWhatTheyAreToBe() {
        Due.sentence("What is refused changes nothing.");
        GiltCockcrow x = Edge.busy();
        int[] wants = {16, 2, 2, 3, 12, 5};
        int[] got = {x.told(15), x.told(11), x.told(12), x.told(14), x.told(3), x.fault()};
        for (int i = 0; i < wants.length; i++) {
            Due.due("of the busy town, " + i, got[i], wants[i]);
        }
        Due.dueTrue("somebody is on two layers", x.told(8) != 0);
        Due.dueTrue("there are marks", x.told(6) != 0);
        GiltCockcrow late = Edge.onDay9001();
        Due.due("DAYS", late.told(4), 9001);
        Due.due("what can be undone", late.told(15), 16);
    }

    /** Each of these would be refused for two reasons at least, or for three. */
    private static void unknownIsAheadOfAll() {
        Due.sentence("REFUSALS, of several the first in this order: UNKNOWN");
        Edge.Call[] inATown = {
            x -> x.person(6, 5), x -> x.ear(6, 10), x -> x.layers(6, 201), x -> x.know(6, 10), x -> x.crows(64, 2),
            x -> x.leave(6, 0), x -> x.leave(0, 7), x -> x.leave(6, 7),
        };
        Edge.Call[] inNone = {
            x -> x.person(0, 5), x -> x.ear(0, 10), x -> x.layers(0, 201), x -> x.know(0, 10), x -> x.crows(1, 2),
            x -> x.crows(1, 0), x -> x.together(1), x -> x.leave(0, 0), x -> x.goBack(2),
        };
        Edge.Call[] ofFullRows = {
            x -> x.met(6, 0, true), x -> x.met(0, 6, true), x -> x.met(0, 0, true), x -> x.write(6, 0, true),
            x -> x.write(0, 7, true), x -> x.goBack(2),
        };
        for (int i = 0; i < inATown.length; i++) {
            Edge.refused("in a town, " + i, UNKNOWN, Edge::busy, inATown[i]);
        }
        for (int i = 0; i < inNone.length; i++) {
            Edge.refused("without a town, " + i, UNKNOWN, Edge::none, inNone[i]);
        }
        for (int i = 0; i < ofFullRows.length; i++) {
            Edge.refused("all rows being full, " + i, UNKNOWN, RefusalsTest::allSeen, ofFullRows[i]);
        }
    }

    private static void outsideIsAheadOfNotAndFull() {
        Due.sentence("OUTSIDE (another number out of its bounds), NOT (not now, as told), FULL.");
        Edge.Call[] inNone = {
            x -> x.dawn(0), x -> x.drift(61), x -> x.crow(0), x -> x.crow(10), x -> x.crows(0, 2), x -> x.is(3), x -> x.is(-1),
        };
        for (int i = 0; i < inNone.length; i++) {
            Edge.refused("ahead of NOT, " + i, OUTSIDE, Edge::none, inNone[i]);
        }
        Edge.Call[] late = {x -> x.dawn(0), x -> x.dawn(61), x -> x.drift(0), x -> x.drift(61)};
        for (int i = 0; i < late.length; i++) {
            Edge.refused("ahead of FULL, " + i, OUTSIDE, Edge::onDay9001, late[i]);
        }
        Edge.refused("a letter ahead of FULL", OUTSIDE, RefusalsTest::with240Letters, x -> x.feed(256));
        Edge.refused("a light ahead of FULL", OUTSIDE, RefusalsTest::allSeen, x -> x.shadow(0, 0));
        Edge.refused("how far ahead of FULL", OUTSIDE, RefusalsTest::allSeen, x -> x.shadow(1, 7));
    }

    private static void feed() {
        Due.sentence("One letter (a number 0 .. 255) comes behind THE TEXT: how many it has. OUTSIDE, FULL (240).");
        Edge.refusedAround("feed", OUTSIDE, 0, 255, Edge::busy, GiltCockcrow::feed);
        Edge.refusedAround("feed without a town", OUTSIDE, 0, 255, Edge::none, GiltCockcrow::feed);
        for (int letter : new int[] {0, ' ', ';', 'n', 255}) {
            Edge.refused("feed at 240", FULL, RefusalsTest::with240Letters, x -> x.feed(letter));
        }
        Edge.refusedAround("feed at 240", OUTSIDE, 0, 255, RefusalsTest::with240Letters, GiltCockcrow::feed);
    }

    private static GiltCockcrow with240Letters() {
        GiltCockcrow x = Due.in(Due.TOWN);
        for (int i = 0; i < 228; i++) {
            x.feed(' ');
        }
        Due.feedAll(x, "n3 1;p0 2 4;");
        return x;
    }

    private static void told() {
        Due.sentence("15 how many can be undone. OUTSIDE.");
        Edge.refusedAround("told", OUTSIDE, 0, 15, Edge::busy, GiltCockcrow::told);
        Edge.refusedAround("told without a town", OUTSIDE, 0, 15, Edge::none, GiltCockcrow::told);
    }

    private static void person() {
        Due.sentence("4 whom it MEETS (not itself). UNKNOWN, OUTSIDE.");
        for (int what = -1; what <= 5; what++) {
            int asked = what;
            Edge.refusedAround("person, " + what, UNKNOWN, 0, LAST_PERSON, Edge::busy, (x, p) -> x.person(p, asked));
            Edge.refused("person(0, " + what + ") without a town", UNKNOWN, Edge::none, x -> x.person(0, asked));
        }
        Edge.refusedAround("what of person", OUTSIDE, 0, 4, Edge::busy, (x, what) -> x.person(0, what));
        Edge.refusedAround("what of the last person", OUTSIDE, 0, 4, Edge::busy, (x, what) -> x.person(LAST_PERSON, what));
    }

    private static void onLayer() {
        Due.sentence("Who is on a LAYER. UNKNOWN.");
        Edge.refusedAround("onLayer", UNKNOWN, 0, LAST_LAYER, Edge::busy, GiltCockcrow::onLayer);
        Edge.refused("onLayer(0) without a town", UNKNOWN, Edge::none, x -> x.onLayer(0));
        Edge.refused("onLayer(-1) without a town", UNKNOWN, Edge::none, x -> x.onLayer(-1));
    }

    private static void dawnsAndDrifts() {
        Edge.Numbered[] calls = {GiltCockcrow::dawn, GiltCockcrow::drift};
        for (int i = 0; i < calls.length; i++) {
            Edge.Numbered call = calls[i];
            String name = i == 0 ? "dawn" : "drift";
            Due.sentence(i == 0 ? "n DAWNS (1 .. 60): DAYS. OUTSIDE, NOT: no TOWN; FULL: DAYS are above 9000."
                    : "n DAWNS (1 .. 60) BY DRAWS: DAYS. OUTSIDE, NOT: no TOWN; FULL: DAYS are above 9000.");
            Edge.refusedAround(name, OUTSIDE, 1, 60, Edge::busy, call);
            Edge.refusedAround(name + " without a town", OUTSIDE, 1, 60, Edge::none, call);
            Edge.refusedAround(name + " on day 9001", OUTSIDE, 1, 60, Edge::onDay9001, call);
            for (int n : new int[] {1, 60}) {
                Edge.refused(name + "(" + n + ") without a town", NOT, Edge::none, x -> call.on(x, n));
                Edge.refused(name + "(" + n + ") on day 9001", FULL, Edge::onDay9001, x -> call.on(x, n));
            }
        }
    }

    private static void crow() {
        Due.sentence("A CROW out of time (1 .. 9): who HEARS it. OUTSIDE, NOT: no TOWN.");
        Edge.refusedAround("crow", OUTSIDE, 1, 9, Edge::busy, GiltCockcrow::crow);
        Edge.refusedAround("crow without a town", OUTSIDE, 1, 9, Edge::none, GiltCockcrow::crow);
        Edge.refused("crow(1) without a town", NOT, Edge::none, x -> x.crow(1));
        Edge.refused("crow(9) without a town", NOT, Edge::none, x -> x.crow(9));
    }

    private static void step() {
        Due.sentence("STEPS: the LAYERS where it was. UNKNOWN.");
        Edge.refusedAround("who steps", UNKNOWN, 0, LAST_PERSON, Edge::busy, (x, p) -> x.step(p, 0));
        Edge.refusedAround("to where", UNKNOWN, 0, LAST_LAYER, Edge::busy, (x, l) -> x.step(0, l));
        Edge.refused("step(6, 7)", UNKNOWN, Edge::busy, x -> x.step(6, 7));
        Edge.refused("step(0, 0) without a town", UNKNOWN, Edge::none, x -> x.step(0, 0));
    }

    private static void leave() {
        Due.sentence("LEAVES: the LAYERS where it is. UNKNOWN, NOT: it is not on that, on that alone.");
        Edge.refusedAround("who leaves", UNKNOWN, 0, LAST_PERSON, Edge::busy, (x, p) -> x.leave(p, 0));
        Edge.refusedAround("who leaves, and what", UNKNOWN, 0, LAST_PERSON, Edge::busy, (x, p) -> x.leave(p, -1));
        // one who is on a layer alone is not on these: UNKNOWN is ahead of NOT
        Edge.refusedAround("what is left", UNKNOWN, 0, LAST_LAYER, Edge::busy, (x, l) -> x.leave(0, l));
        Edge.refusedAround("what a baker leaves", UNKNOWN, 0, LAST_LAYER, Edge::busy, (x, l) -> x.leave(2, l));
        Edge.refused("leave(0, 0) without a town", UNKNOWN, Edge::none, x -> x.leave(0, 0));
        int torn = 0;
        for (int p = 0; p <= LAST_PERSON; p++) {
            int set = Edge.busy().person(p, 1);
            torn += Integer.bitCount(set) > 1 ? 1 : 0;
            for (int l = 0; l <= LAST_LAYER; l++) {
                if (set == 1 << l || (set & 1 << l) == 0) {
                    int person = p;
                    int layer = l;
                    Edge.refused("leave(" + p + ", " + l + ")", NOT, Edge::busy, x -> x.leave(person, layer));
                }
            }
        }
        Due.dueTrue("some are on one alone and some are not", torn > 0 && torn <= LAST_PERSON);
    }

    private static void ear() {
        Due.sentence("EAR (0 .. 9): what it was. UNKNOWN, OUTSIDE.");
        for (int e = -1; e <= 10; e++) {
            int ear = e;
            Edge.refusedAround("whose ear, " + e, UNKNOWN, 0, LAST_PERSON, Edge::busy, (x, p) -> x.ear(p, ear));
        }
        Edge.refusedAround("ear", OUTSIDE, 0, 9, Edge::busy, (x, e) -> x.ear(0, e));
        Edge.refusedAround("ear of the last", OUTSIDE, 0, 9, Edge::busy, (x, e) -> x.ear(LAST_PERSON, e));
        Edge.refused("ear(0, 0) without a town", UNKNOWN, Edge::none, x -> x.ear(0, 0));
        Edge.refused("ear(0, 10) without a town", UNKNOWN, Edge::none, x -> x.ear(0, 10));
    }

    private static void deed() {
        Due.sentence("DONE: MARKS. UNKNOWN.");
        Edge.refusedAround("deed", UNKNOWN, 0, LAST_PERSON, Edge::busy, GiltCockcrow::deed);
        Edge.refused("deed(0) without a town", UNKNOWN, Edge::none, x -> x.deed(0));
    }

    private static void wipe() {
        Due.sentence("WIPED: what MARKS were. NOT: no TOWN.");
        Edge.refused("wipe() without a town", NOT, Edge::none, GiltCockcrow::wipe);
    }

    private static void undo() {
        Due.sentence("The latest is undone: how many more can be. NOT: none.");
        Edge.refused("undo() without a town", NOT, Edge::none, GiltCockcrow::undo);
        Edge.refused("undo() of a new town", NOT, RefusalsTest::nothingDone, GiltCockcrow::undo);
        Edge.refused("undo() behind keep()", NOT, () -> {
            GiltCockcrow x = Edge.busy();
            x.keep(1);
            return x;
        }, GiltCockcrow::undo);
        Edge.refused("undo() behind goBack()", NOT, () -> {
            GiltCockcrow x = Edge.busy();
            x.goBack(1);
            return x;
        }, GiltCockcrow::undo);
        Edge.refused("a seventeenth undo()", NOT, () -> {
            GiltCockcrow x = Edge.busy();
            for (int i = 0; i < 16; i++) {
                x.undo();
            }
            return x;
        }, GiltCockcrow::undo);
    }

    private static GiltCockcrow nothingDone() {
        GiltCockcrow x = Due.in(Due.TOWN);
        x.shadow(1, 1);
        x.seed(3);
        return x;
    }

    private static void layers() {
        Due.sentence("LAYERS behind n DAWNS (a SET of LAYERS). UNKNOWN, OUTSIDE.");
        for (int n : new int[] {-1, 0, 200, 201}) {
            Edge.refusedAround("whose layers, " + n, UNKNOWN, 0, LAST_PERSON, Edge::busy, (x, p) -> x.layers(p, n));
            Edge.refused("layers(0, " + n + ") without a town", UNKNOWN, Edge::none, x -> x.layers(0, n));
        }
        Edge.refusedAround("layers", OUTSIDE, 0, 200, Edge::busy, (x, n) -> x.layers(0, n));
        Edge.refusedAround("layers on day 9001", OUTSIDE, 0, 200, Edge::onDay9001, (x, n) -> x.layers(0, n));
    }

    private static void first() {
        Due.sentence("FIRST; NONE. UNKNOWN.");
        Edge.refusedAround("who is first", UNKNOWN, 0, LAST_PERSON, Edge::busy, (x, p) -> x.first(p, 0));
        Edge.refusedAround("first where", UNKNOWN, 0, LAST_LAYER, Edge::busy, (x, l) -> x.first(0, l));
        Edge.refused("first(0, 0) without a town", UNKNOWN, Edge::none, x -> x.first(0, 0));
    }

    private static void together() {
        Due.sentence("TOGETHER (nobody: 0); NONE. UNKNOWN, NOT: no TOWN.");
        Edge.refusedAround("together", UNKNOWN, 0, 63, Edge::busy, GiltCockcrow::together);
        for (int bit = 6; bit < 32; bit++) {
            int set = 1 << bit;
            Due.due("together of bit " + bit, Edge.busy().together(set), UNKNOWN);
            Due.due("together of bit " + bit + " and persons", Edge.busy().together(set | 63), UNKNOWN);
            Due.due("without a town, of bit " + bit, Edge.none().together(set), UNKNOWN);
        }
        Edge.refused("together(0) without a town", NOT, Edge::none, x -> x.together(0));
        Edge.refused("together(1) without a town", UNKNOWN, Edge::none, x -> x.together(1));
        Edge.refused("together(-1) without a town", UNKNOWN, Edge::none, x -> x.together(-1));
    }

    private static void asNow() {
        Due.sentence("AS NOW; NONE. NOT: no TOWN.");
        Edge.refused("asNow() without a town", NOT, Edge::none, GiltCockcrow::asNow);
    }

    private static void crows() {
        Due.sentence("what = 0 how many, 1 the LIGHTS; NONE. UNKNOWN, OUTSIDE, NOT: no TOWN.");
        for (int what = -1; what <= 2; what++) {
            int asked = what;
            Edge.refusedAround("crows, " + what, UNKNOWN, 0, 63, Edge::busy, (x, set) -> x.crows(set, asked));
            Edge.refused("crows(1) without a town, " + what, UNKNOWN, Edge::none, x -> x.crows(1, asked));
            Edge.refused("crows(-1) without a town, " + what, UNKNOWN, Edge::none, x -> x.crows(-1, asked));
        }
        Edge.refusedAround("what of crows", OUTSIDE, 0, 1, Edge::busy, (x, what) -> x.crows(63, what));
        Edge.refusedAround("what of crows without a town", OUTSIDE, 0, 1, Edge::none, (x, what) -> x.crows(0, what));
        Edge.refused("crows(0, 0) without a town", NOT, Edge::none, x -> x.crows(0, 0));
        Edge.refused("crows(0, 1) without a town", NOT, Edge::none, x -> x.crows(0, 1));
    }

    private static void know() {
        Due.sentence("KNOW. UNKNOWN, OUTSIDE.");
        for (int k : new int[] {-1, 0, 9, 10}) {
            Edge.refusedAround("whose doing, " + k, UNKNOWN, 0, LAST_PERSON, Edge::busy, (x, p) -> x.know(p, k));
            Edge.refused("know(0, " + k + ") without a town", UNKNOWN, Edge::none, x -> x.know(0, k));
        }
        Edge.refusedAround("know", OUTSIDE, 0, 9, Edge::busy, (x, k) -> x.know(0, k));
        Edge.refusedAround("know of the last", OUTSIDE, 0, 9, Edge::busy, (x, k) -> x.know(LAST_PERSON, k));
    }

    private static void market() {
        Due.sentence("MARKET: x = NONE how many, else the PERSON of a LAYER; NONE. UNKNOWN.");
        Edge.refusedAround("market", UNKNOWN, -1, LAST_LAYER, Edge::busy, GiltCockcrow::market);
        Edge.refusedAround("market without a town", UNKNOWN, -1, -1, Edge::none, GiltCockcrow::market);
    }

    private static void torn() {
        Due.sentence("TORN between a LAYER and another one. UNKNOWN.");
        Edge.refusedAround("torn to", UNKNOWN, 0, LAST_LAYER, Edge::busy, (x, l) -> x.torn(0, l));
        Edge.refusedAround("torn from", UNKNOWN, 0, LAST_LAYER, Edge::busy, (x, l) -> x.torn(l, 0));
        for (int l = -1; l <= LAST_LAYER + 1; l++) {
            int layer = l;
            Edge.refused("torn(" + l + ", " + l + ")", UNKNOWN, Edge::busy, x -> x.torn(layer, layer));
        }
        Edge.refused("torn(0, 1) without a town", UNKNOWN, Edge::none, x -> x.torn(0, 1));
    }

    private static void dark() {
        Due.sentence("DARK. OUTSIDE.");
        for (int other : new int[] {0, 60}) {
            Edge.refusedAround("dark by " + other, OUTSIDE, 0, 60, Edge::busy, (x, n) -> x.dark(n, other));
            Edge.refusedAround("dark of " + other, OUTSIDE, 0, 100, Edge::none, (x, q) -> x.dark(other, q));
        }
        Edge.refused("dark(61, 101)", OUTSIDE, Edge::busy, x -> x.dark(61, 101));
    }

    private static void shadow() {
        Due.sentence("A SHADOW: how many there are. OUTSIDE (m: N or more, too; without a TOWN there is none), FULL (6).");
        Edge.refusedAround("light of a shadow", OUTSIDE, 1, 9, Edge::busy, (x, light) -> x.shadow(light, 0));
        Edge.refusedAround("how far a shadow went", OUTSIDE, 0, LAST_LAYER, Edge::busy, (x, m) -> x.shadow(1, m));
        for (int m : new int[] {-1, 0, 1}) {
            Edge.refused("shadow(1, " + m + ") without a town", OUTSIDE, Edge::none, x -> x.shadow(1, m));
        }
        Edge.refused("shadow(1, 0)", FULL, RefusalsTest::allSeen, x -> x.shadow(1, 0));
        Edge.refused("shadow(9, 6)", FULL, RefusalsTest::allSeen, x -> x.shadow(9, 6));
        Edge.refusedAround("light of a seventh", OUTSIDE, 1, 9, RefusalsTest::allSeen, (x, light) -> x.shadow(light, 0));
        Edge.refusedAround("how far a seventh", OUTSIDE, 0, LAST_LAYER, RefusalsTest::allSeen, (x, m) -> x.shadow(1, m));
    }

    /** Six shadows, ten meetings, fifteen entries. */
    private static GiltCockcrow allSeen() {
        GiltCockcrow x = Due.in(Due.TOWN);
        x.dawn(3);
        for (int i = 0; i < 15; i++) {
            x.write(i % 6, i % 7, x.layers(i % 6, 0) == 1 << i % 7);
        }
        for (int i = 0; i < 10; i++) {
            x.met(i % 6, (i + 1) % 6, i < 3);
        }
        for (int i = 1; i <= 6; i++) {
            x.shadow(i, 1);
        }
        return x;
    }

    private static void is() {
        Due.sentence("IS: what = 0 how many, 1 the first, 2 LIGHT TO WATCH; NONE. OUTSIDE, NOT: no TOWN.");
        Edge.refusedAround("is", OUTSIDE, 0, 2, Edge::busy, GiltCockcrow::is);
        Edge.refusedAround("is without a town", OUTSIDE, 0, 2, Edge::none, GiltCockcrow::is);
        for (int what = 0; what <= 2; what++) {
            int asked = what;
            Edge.refused("is(" + what + ") without a town", NOT, Edge::none, x -> x.is(asked));
        }
    }

    private static void met() {
        Due.sentence("MET, or did not: how many there are. UNKNOWN, FULL (10).");
        for (boolean did : new boolean[] {true, false}) {
            Edge.refusedAround("who met", UNKNOWN, 0, LAST_PERSON, Edge::busy, (x, p) -> x.met(p, 0, did));
            Edge.refusedAround("whom it met", UNKNOWN, 0, LAST_PERSON, Edge::busy, (x, q) -> x.met(0, q, did));
            for (int p = -1; p <= LAST_PERSON + 1; p++) {
                int one = p;
                Edge.refused("met(" + p + ", " + p + ")", UNKNOWN, Edge::busy, x -> x.met(one, one, did));
            }
            Edge.refused("an eleventh of nobody", UNKNOWN, RefusalsTest::allSeen, x -> x.met(6, 0, did));
            Edge.refused("an eleventh with nobody", UNKNOWN, RefusalsTest::allSeen, x -> x.met(0, -1, did));
            Edge.refused("an eleventh of one twice", UNKNOWN, RefusalsTest::allSeen, x -> x.met(3, 3, did));
            Edge.refused("an eleventh", FULL, RefusalsTest::allSeen, x -> x.met(0, 5, did));
            Edge.refused("met(0, 1) without a town", UNKNOWN, Edge::none, x -> x.met(0, 1, did));
        }
    }

    private static void write() {
        Due.sentence("An entry behind THE BOOK: how many. UNKNOWN, FULL (15).");
        for (boolean is : new boolean[] {true, false}) {
            Edge.refusedAround("of whom", UNKNOWN, 0, LAST_PERSON, Edge::busy, (x, p) -> x.write(p, 0, is));
            Edge.refusedAround("of which layer", UNKNOWN, 0, LAST_LAYER, Edge::busy, (x, l) -> x.write(0, l, is));
            Edge.refused("a sixteenth of nobody", UNKNOWN, RefusalsTest::allSeen, x -> x.write(6, 0, is));
            Edge.refused("a sixteenth of no layer", UNKNOWN, RefusalsTest::allSeen, x -> x.write(0, 7, is));
            Edge.refused("a sixteenth", FULL, RefusalsTest::allSeen, x -> x.write(0, 0, is));
            Edge.refused("write(0, 0) without a town", UNKNOWN, Edge::none, x -> x.write(0, 0, is));
        }
    }

    private static void seed() {
        Due.sentence("THE SEED becomes v (0 .. 2147483647): what it was. OUTSIDE.");
        for (int v : new int[] {-1, -2, -65536, Integer.MIN_VALUE + 1, Integer.MIN_VALUE}) {
            Edge.refused("seed(" + v + ")", OUTSIDE, Edge::busy, x -> x.seed(v));
            Edge.refused("seed(" + v + ") without a town", OUTSIDE, Edge::none, x -> x.seed(v));
        }
    }

    private static void keep() {
        Due.sentence("IMAGE i becomes what is so (nothing can be undone then): 1. UNKNOWN.");
        Edge.refusedAround("keep", UNKNOWN, 0, 1, Edge::busy, GiltCockcrow::keep);
        Edge.refusedAround("keep without a town", UNKNOWN, 0, 1, Edge::none, GiltCockcrow::keep);
    }

    private static void goBack() {
        Due.sentence("What is so becomes IMAGE i (nothing can be undone then): 1. UNKNOWN, NOT: it was not kept.");
        Edge.refusedAround("goBack", UNKNOWN, 0, 1, Edge::busy, GiltCockcrow::goBack);
        Edge.refused("goBack(1) without a town", NOT, Edge::none, x -> x.goBack(1));
        for (int kept = 0; kept <= 1; kept++) {
            int image = kept;
            Edge.Made made = () -> {
                GiltCockcrow x = nothingDone();
                x.keep(image);
                x.dawn(5);
                x.deed(1);
                return x;
            };
            Edge.refused("goBack to the other than " + kept, NOT, made, x -> x.goBack(1 - image));
            Edge.refusedAround("goBack, one kept", UNKNOWN, 0, 1, made, GiltCockcrow::goBack);
        }
        Edge.refusedAround("goBack, none kept", UNKNOWN, 0, 1, RefusalsTest::nothingDone, GiltCockcrow::goBack);
        Edge.refused("goBack(0), none kept", NOT, RefusalsTest::nothingDone, x -> x.goBack(0));
        Edge.refused("goBack(1), none kept", NOT, RefusalsTest::nothingDone, x -> x.goBack(1));
    }
}
