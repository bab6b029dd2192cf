/** Promises 8 to 16: what is done, and undone. */
public final class DoneTest {
    private static final int UNKNOWN = GiltCockcrow.UNKNOWN;
    private static final int OUTSIDE = GiltCockcrow.OUTSIDE;
    private static final int NOT = GiltCockcrow.NOT;
    private static final int FULL = GiltCockcrow.FULL;

    private DoneTest() {
    }

    public static void main(String[] args) {
        promise8Dawn();
        promise8ManyDays();
        promise9Crow();
        promise10Step();
        promise11Leave();
        promise12Ear();
        promise13Deed();
        promise14Wipe();
        promise15Drift();
        promise15DriftOfNobody();
        promise16Undo();
        promise16UndoOfEach();
        promise16TheOldestAreLost();
        refusedChangesNothing();
        Due.end();
    }

    private static void promise8Dawn() {
        GiltCockcrow x = Due.in(Due.TOWN);
        Due.due("8 dawn(0)", x.dawn(0), OUTSIDE);
        Due.due("8 dawn(61)", x.dawn(61), OUTSIDE);
        Due.due("8 dawn(-1)", x.dawn(-1), OUTSIDE);
        Due.due("8 dawn(1)", x.dawn(1), 1);
        int[] wants = {0b0000010, 0b0100000, 0b0000100, 0b0100000, 0b0000100, 0b0010000};
        for (int p = 0; p < 6; p++) {
            Due.due("8 LAYERS behind a dawn", x.person(p, 1), wants[p]);
        }
        Due.due("8 dawn(3)", x.dawn(3), 4);
        int[] later = {0b0001000, 0b0000100, 0b0001100, 0b0000100, 0b0001000, 0b0010000};
        for (int p = 0; p < 6; p++) {
            Due.due("8 LAYERS behind four dawns", x.person(p, 1), later[p]);
        }
        Due.due("8 dawn(60)", x.dawn(60), 64);
        GiltCockcrow y = new GiltCockcrow();
        Due.due("8 dawn(1) without a town", y.dawn(1), NOT);
        Due.due("8 dawn(61) without a town", y.dawn(61), OUTSIDE);
        GiltCockcrow two = Due.in("n2 0;p1 0 9;p3 0 9;p2 1 9;");
        two.dawn(1);
        Due.due("8 a nun of two layers comes around", two.person(0, 1), 0b01);
        Due.due("8 a lad of two layers", two.person(1, 1), 0b10);
        Due.due("8 a baker of two layers", two.person(2, 1), 0b11);
        Due.due("8 dawn(1) in a town of nobody", Due.in("n2 0;").dawn(1), 1);
    }

    private static void promise8ManyDays() {
        GiltCockcrow x = Due.in("n2 0;p0 0 9;");
        for (int i = 1; i <= 150; i++) {
            Due.due("8 dawn(60)", x.dawn(60), 60 * i);
        }
        Due.due("8 at 9000", x.told(4), 9000);
        Due.due("8 dawn(60) at 9000", x.dawn(60), 9060);
        Due.due("8 dawn(1) above 9000", x.dawn(1), FULL);
        Due.due("15 drift(1) above 9000", x.drift(1), FULL);
        Due.due("8 dawn(0) above 9000", x.dawn(0), OUTSIDE);
        Due.due("8 HEARD", x.person(0, 3), 9060);
        Due.due("16 undo()", x.undo(), 15);
        Due.due("8 dawn(1) at 9000", x.dawn(1), 9001);
        Due.due("8 dawn(1) at 9001", x.dawn(1), FULL);
        Due.due("9 crow(1) above 9000", x.crow(1), 1);
        Due.due("17 layers(0, 200) above 9000", x.layers(0, 200), 0b01);
    }

    private static void promise9Crow() {
        GiltCockcrow x = Due.in(Due.TOWN);
        Due.due("9 crow(0)", x.crow(0), OUTSIDE);
        Due.due("9 crow(10)", x.crow(10), OUTSIDE);
        Due.due("9 crow(1)", x.crow(1), 0b011111);
        Due.due("9 crow(5)", x.crow(5), 0b011011);
        Due.due("9 crow(6)", x.crow(6), 0b011010);
        Due.due("9 crow(9)", x.crow(9), 0b001000);
        Due.due("9 DAYS stay", x.told(4), 0);
        int[] wants = {0b0000100, 0b0000100, 0b0001100, 0b0000100, 0b0010000, 0b0010000};
        int[] heard = {2, 3, 1, 4, 3, 0};
        for (int p = 0; p < 6; p++) {
            Due.due("9 LAYERS", x.person(p, 1), wants[p]);
            Due.due("9 HEARD", x.person(p, 3), heard[p]);
        }
        x.dawn(1);
        int late = x.person(4, 1);
        Due.due("9 the late one hears on an odd day", x.crow(6) >> 4 & 1, 1);
        Due.due("9 the late one stays on an odd day", x.person(4, 1), late);
        Due.due("9 and it is counted", x.person(4, 3), 5);
        GiltCockcrow y = new GiltCockcrow();
        Due.due("9 crow(1) without a town", y.crow(1), NOT);
        Due.due("9 crow(0) without a town", y.crow(0), OUTSIDE);
        Due.due("9 crow(1) with nobody", Due.in("n2 0;").crow(1), 0);
    }

    private static void promise10Step() {
        GiltCockcrow x = Due.in("n3 0;p2 0 9;p0 1 9;");
        x.dawn(2);
        Due.due("10 step(0, 2)", x.step(0, 2), 0b111);
        Due.due("10 LAYERS", x.person(0, 1), 0b100);
        Due.due("10 step(0, 2) again", x.step(0, 2), 0b100);
        Due.due("10 step(0, 0)", x.step(0, 0), 0b100);
        Due.due("10 the other stays", x.person(1, 1), 0b001);
        Due.due("10 step(2, 0)", x.step(2, 0), UNKNOWN);
        Due.due("10 step(-1, 0)", x.step(-1, 0), UNKNOWN);
        Due.due("10 step(0, 3)", x.step(0, 3), UNKNOWN);
        Due.due("10 step(0, -1)", x.step(0, -1), UNKNOWN);
        Due.due("10 step(0, 32)", x.step(0, 32), UNKNOWN);
        Due.due("10 nothing changed", x.person(0, 1), 0b001);
        Due.due("10 without a town", new GiltCockcrow().step(0, 0), UNKNOWN);
    }

    private static void promise11Leave() {
        GiltCockcrow x = Due.in("n3 0;p2 0 9;p0 1 9;");
        Due.due("11 leave(0, 0), on that alone", x.leave(0, 0), NOT);
        Due.due("11 leave(0, 1), not on that", x.leave(0, 1), NOT);
        x.dawn(2);
        Due.due("11 leave(0, 1)", x.leave(0, 1), 0b101);
        Due.due("11 LAYERS", x.person(0, 1), 0b101);
        Due.due("11 leave(0, 1) again", x.leave(0, 1), NOT);
        Due.due("11 leave(0, 0)", x.leave(0, 0), 0b100);
        Due.due("11 leave(0, 2)", x.leave(0, 2), NOT);
        Due.due("11 LAYERS are never none", x.person(0, 1), 0b100);
        Due.due("11 leave(2, 0)", x.leave(2, 0), UNKNOWN);
        Due.due("11 leave(-1, 0)", x.leave(-1, 0), UNKNOWN);
        Due.due("11 leave(0, 3)", x.leave(0, 3), UNKNOWN);
        Due.due("11 leave(0, -1)", x.leave(0, -1), UNKNOWN);
        Due.due("11 what can be undone", x.told(15), 3);
    }

    private static void promise12Ear() {
        GiltCockcrow x = Due.in("n3 0;p0 0 4;");
        Due.due("12 crow(5)", x.crow(5), 0);
        Due.due("12 ear(0, 5)", x.ear(0, 5), 4);
        Due.due("12 crow(5)", x.crow(5), 1);
        Due.due("12 ear(0, 0)", x.ear(0, 0), 5);
        Due.due("12 crow(1)", x.crow(1), 0);
        Due.due("12 ear(0, 9)", x.ear(0, 9), 0);
        Due.due("12 crow(9)", x.crow(9), 1);
        Due.due("12 ear(0, 10)", x.ear(0, 10), OUTSIDE);
        Due.due("12 ear(0, -1)", x.ear(0, -1), OUTSIDE);
        Due.due("12 ear(1, 10)", x.ear(1, 10), UNKNOWN);
        Due.due("12 ear(-1, 0)", x.ear(-1, 0), UNKNOWN);
        Due.due("12 EAR", x.person(0, 2), 9);
    }

    private static void promise13Deed() {
        GiltCockcrow x = Due.in("n4 1;p2 0 9;p0 3 0;");
        x.dawn(1);
        Due.due("13 deed(0)", x.deed(0), 0b0011);
        x.dawn(1);
        Due.due("13 MARKS stay where they are", x.told(6), 0b0011);
        Due.due("13 deed(1)", x.deed(1), 0b1011);
        Due.due("13 deed(0)", x.deed(0), 0b1111);
        Due.due("13 deed(2)", x.deed(2), UNKNOWN);
        Due.due("13 deed(-1)", x.deed(-1), UNKNOWN);
        Due.due("13 without a town", new GiltCockcrow().deed(0), UNKNOWN);
    }

    private static void promise14Wipe() {
        GiltCockcrow x = Due.in("n4 1;p0 2 9;");
        Due.due("14 wipe() of none", x.wipe(), 0);
        x.deed(0);
        Due.due("14 wipe()", x.wipe(), 0b0100);
        Due.due("14 MARKS", x.told(6), 0);
        Due.due("14 what can be undone", x.told(15), 3);
        Due.due("14 without a town", new GiltCockcrow().wipe(), NOT);
    }

    /** The draws are counted here once more, in long numbers. */
    private static void promise15Drift() {
        GiltCockcrow x = Due.in(Due.TOWN);
        GiltCockcrow y = Due.in(Due.TOWN);
        x.seed(2147483647);
        long[] seed = {2147483647L};
        for (int i = 1; i <= 40; i++) {
            Due.due("15 drift(1)", x.drift(1), i);
            int what = draw(seed, 5);
            int p = draw(seed, 6);
            if (what == 0) {
                y.step(p, draw(seed, 7));
            } else if (what == 1) {
                y.ear(p, draw(seed, 10));
            } else if (what == 2) {
                y.deed(p);
            } else if (what == 3) {
                y.crow(1 + draw(seed, 9));
            }
            y.dawn(1);
            Due.due("15 MARKS", x.told(6), y.told(6));
            for (int q = 0; q < 6; q++) {
                Due.due("15 LAYERS", x.person(q, 1), y.person(q, 1));
                Due.due("15 EAR", x.person(q, 2), y.person(q, 2));
                Due.due("15 HEARD", x.person(q, 3), y.person(q, 3));
            }
        }
        Due.due("15 THE SEED", x.seed(0), seed[0]);
        x.drift(60);
        Due.due("15 drift(0)", x.drift(0), OUTSIDE);
        Due.due("15 drift(61)", x.drift(61), OUTSIDE);
        Due.due("15 DAYS", x.told(4), 100);
        Due.due("15 drift(1) without a town", new GiltCockcrow().drift(1), NOT);
        Due.due("15 drift(61) without a town", new GiltCockcrow().drift(61), OUTSIDE);
    }

    private static int draw(long[] seed, int n) {
        seed[0] = (seed[0] * 1103515245L + 12345L) % 2147483648L;
        return (int) (seed[0] / 65536L % n);
    }

    private static void promise15DriftOfNobody() {
        GiltCockcrow x = Due.in("n2 0;");
        x.seed(9);
        Due.due("15 drift(7) of nobody", x.drift(7), 7);
        Due.due("15 there was no DRAW", x.seed(0), 9);
        GiltCockcrow y = Due.in("n2 0;p0 0 0;");
        Due.due("15 drift(60)", y.drift(60), 60);
        Due.due("15 one drift is undone at once", y.undo(), 0);
        Due.due("15 DAYS", y.told(4), 0);
    }

    private static void promise16Undo() {
        GiltCockcrow x = Due.in(Due.TOWN);
        Due.due("16 undo() of none", x.undo(), NOT);
        x.seed(4);
        x.drift(20);
        int seed = x.seed(0);
        x.seed(seed);
        Due.due("16 undo()", x.undo(), 0);
        Due.due("16 THE SEED stays", x.seed(1), seed);
        Due.due("16 undo() again", x.undo(), NOT);
        x.dawn(5);
        x.shadow(1, 1);
        x.met(0, 1, true);
        x.write(1, 1, true);
        Due.due("16 undo() of the dawns", x.undo(), 0);
        Due.due("16 what is seen stays", x.tear(), 3);
        Due.due("16 without a town", new GiltCockcrow().undo(), NOT);
    }

    private static void promise16UndoOfEach() {
        GiltCockcrow x = Due.in(Due.TOWN);
        x.dawn(3);
        x.deed(0);
        x.keep(0);
        String[] names = {"dawn", "crow", "step", "leave", "ear", "deed", "wipe", "drift"};
        for (int i = 0; i < names.length; i++) {
            String before = Due.all(x);
            switch (i) {
                case 0: x.dawn(2); break;
                case 1: x.crow(1); break;
                case 2: x.step(0, 6); break;
                case 3: x.leave(2, 2); break;
                case 4: x.ear(0, 9); break;
                case 5: x.deed(3); break;
                case 6: x.wipe(); break;
                default: x.drift(9); x.seed(0); break;
            }
            Due.dueTrue("16 " + names[i] + " changes something", !before.equals(Due.all(x)));
            Due.due("16 what can be undone", x.told(15), 1);
            Due.due("16 undo() of " + names[i], x.undo(), 0);
            Due.dueTrue("16 all is as ahead of " + names[i], before.equals(Due.all(x)));
        }
    }

    private static void promise16TheOldestAreLost() {
        GiltCockcrow x = Due.in("n9 0;p0 0 9;");
        for (int i = 1; i <= 40; i++) {
            x.step(0, i % 9);
            Due.due("16 told(15)", x.told(15), Math.min(i, 16));
        }
        for (int i = 39; i >= 24; i--) {
            Due.due("16 undo()", x.undo(), i - 24);
            Due.due("16 LAYERS", x.person(0, 1), 1 << i % 9);
        }
        Due.due("16 the oldest are lost", x.undo(), NOT);
        Due.due("16 LAYERS stay", x.person(0, 1), 1 << 24 % 9);
        x.crow(1);
        Due.due("16 undo() of a new one", x.undo(), 0);
    }

    private static void refusedChangesNothing() {
        GiltCockcrow x = Due.in(Due.TOWN);
        x.dawn(3);
        x.deed(4);
        String before = Due.all(x);
        x.dawn(0);
        x.crow(10);
        x.step(0, 7);
        x.step(6, 0);
        x.leave(0, 3);
        x.leave(0, 0);
        x.ear(0, 10);
        x.deed(6);
        x.drift(61);
        x.shadow(0, 0);
        x.shadow(1, 7);
        x.met(0, 0, true);
        x.write(0, 7, true);
        x.seed(-1);
        x.keep(2);
        x.goBack(0);
        x.goBack(-1);
        x.feed(256);
        Due.dueTrue("what is refused changes nothing", before.equals(Due.all(x)));
    }
}
