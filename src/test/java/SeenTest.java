/** Promises 26 to 34: what is seen, draws and images. */
public final class SeenTest {
    private static final int NONE = GiltCockcrow.NONE;
    private static final int UNKNOWN = GiltCockcrow.UNKNOWN;
    private static final int OUTSIDE = GiltCockcrow.OUTSIDE;
    private static final int NOT = GiltCockcrow.NOT;
    private static final int FULL = GiltCockcrow.FULL;

    private SeenTest() {
    }

    public static void main(String[] args) {
        promise26Shadow();
        promise27Is();
        promise27SmallTowns();
        promise28Met();
        promise28Explained();
        promise29Write();
        promise30Tear();
        promise31Judge();
        promise32Seed();
        promise33Keep();
        promise34GoBack();
        Due.end();
    }

    private static void promise26Shadow() {
        GiltCockcrow x = Due.in("n4 0;p0 0 0;");
        Due.due("26 shadow(0, 0)", x.shadow(0, 0), OUTSIDE);
        Due.due("26 shadow(10, 0)", x.shadow(10, 0), OUTSIDE);
        Due.due("26 shadow(1, -1)", x.shadow(1, -1), OUTSIDE);
        Due.due("26 shadow(1, 4)", x.shadow(1, 4), OUTSIDE);
        for (int i = 1; i <= 6; i++) {
            Due.due("26 shadow(" + i + ", 3)", x.shadow(i, 3), i);
            Due.due("26 told(11)", x.told(11), i);
        }
        Due.due("26 a seventh", x.shadow(9, 0), FULL);
        Due.due("26 a seventh out of bounds", x.shadow(9, 4), OUTSIDE);
        Due.due("26 told(11)", x.told(11), 6);
        Due.due("26 without a town", new GiltCockcrow().shadow(1, 0), OUTSIDE);
        Due.due("26 in a town of nobody", Due.in("n2 0;").shadow(9, 1), 1);
    }

    private static void promise27Is() {
        GiltCockcrow x = Due.in("n9 0;");
        Due.due("27 all fit", x.is(0), 30);
        Due.due("27 the first of all", x.is(1), 0);
        // at light 1: 3 stay, 9 of each kind go; at 2: 6 stay, 8 of each; at 3: 9 stay, 7 of each
        Due.due("27 the light to watch", x.is(2), 2);
        x.shadow(4, 0);
        Due.due("27 who stayed at 4: ears 0 to 3", x.is(0), 12);
        Due.due("27 the first of them", x.is(1), 0);
        // at 1: 3 stay, 3 of each go; at 2: 6 stay
        Due.due("27 the light to watch", x.is(2), 1);
        x.shadow(2, 8);
        Due.due("27 lads of ear 2 and 3", x.is(0), 2);
        Due.due("27 the first of them", x.is(1), 32);
        Due.due("27 the light to watch", x.is(2), 3);
        x.shadow(3, 8);
        Due.due("27 one is left", x.is(0), 1);
        Due.due("27 it", x.is(1), 33);
        Due.due("27 nothing to watch", x.is(2), NONE);
        x.shadow(3, 1);
        Due.due("27 none is left", x.is(0), 0);
        Due.due("27 no first", x.is(1), NONE);
        Due.due("27 no light", x.is(2), NONE);
        Due.due("27 is(3)", x.is(3), OUTSIDE);
        Due.due("27 is(-1)", x.is(-1), OUTSIDE);
        GiltCockcrow y = new GiltCockcrow();
        Due.due("27 without a town", y.is(0), NOT);
        Due.due("27 is(3) without a town", y.is(3), OUTSIDE);
    }

    private static void promise27SmallTowns() {
        // of two layers a nun is where it was, anybody and a lad go alike
        GiltCockcrow two = Due.in("n2 0;");
        two.shadow(5, 1);
        Due.due("27 anybody or a lad, ears 5 to 9", two.is(0), 10);
        Due.due("27 the first", two.is(1), 5);
        Due.due("27 the light", two.is(2), 7);
        two.tear();
        two.shadow(5, 0);
        // all ten nuns, and ears 0 to 4 of the others
        Due.due("27 who stays", two.is(0), 20);
        // at 1: 10 + 2 stay; at 2: 10 + 4
        Due.due("27 the light", two.is(2), 1);
        // of three layers a nun and a lad go alike
        GiltCockcrow three = Due.in("n3 0;");
        three.shadow(9, 2);
        Due.due("27 a nun or a lad of ear 9", three.is(0), 2);
        Due.due("27 the first", three.is(1), 19);
        Due.due("27 none parts them", three.is(2), NONE);
        GiltCockcrow four = Due.in("n4 0;");
        four.shadow(9, 3);
        Due.due("27 a lad of four layers", four.is(1), 39);
        four.tear();
        four.shadow(9, 2);
        Due.due("27 a nun of four layers", four.is(1), 19);
        four.tear();
        four.shadow(8, 1);
        Due.due("27 anybody of ear 8 or 9", four.is(1), 8);
        Due.due("27 the brightest light", four.is(2), 9);
    }

    private static void promise28Met() {
        GiltCockcrow x = Due.in("n2 0;p0 0 0;p0 0 0;p0 0 0;");
        Due.due("28 met(0, 0)", x.met(0, 0, true), UNKNOWN);
        Due.due("28 met(0, 3)", x.met(0, 3, true), UNKNOWN);
        Due.due("28 met(3, 0)", x.met(3, 0, true), UNKNOWN);
        Due.due("28 met(-1, 0)", x.met(-1, 0, false), UNKNOWN);
        Due.due("28 met(0, -1)", x.met(0, -1, false), UNKNOWN);
        for (int i = 1; i <= 10; i++) {
            Due.due("28 met", x.met(i % 3, (i + 1) % 3, true), i);
            Due.due("28 told(12)", x.told(12), i);
        }
        Due.due("28 an eleventh", x.met(0, 1, true), FULL);
        Due.due("28 an eleventh with nobody", x.met(0, 9, true), UNKNOWN);
        Due.due("28 EXPLAINED", x.told(13), 1);
    }

    private static void promise28Explained() {
        GiltCockcrow x = Due.in("n2 0;p0 0 0;p0 0 0;p0 0 0;p0 0 0;p0 0 0;p0 0 0;p0 0 0;p0 0 0;");
        Due.due("28 nothing told", x.told(13), 1);
        // a ring of five needs three, more than this town has
        for (int i = 0; i < 5; i++) {
            x.met(i, (i + 1) % 5, false);
        }
        Due.due("28 a ring of five", x.told(13), 3);
        x.met(0, 2, true);
        Due.due("28 two of the ring met", x.told(13), 3);
        x.met(1, 3, true);
        Due.due("28 two more, still three", x.told(13), 3);
        x.met(1, 4, true);
        Due.due("28 by another two who did not meet: it cannot be", x.told(13), NONE);
        x.tear();
        // five who did not meet at all
        for (int p = 0; p < 5; p++) {
            for (int q = p + 1; q < 5; q++) {
                x.met(q, p, false);
            }
        }
        Due.due("28 five unlike ones", x.told(13), 5);
        x.tear();
        x.met(0, 1, true);
        x.met(2, 3, true);
        x.met(4, 5, true);
        x.met(6, 7, true);
        Due.due("28 four pairs may be on one", x.told(13), 1);
        x.met(1, 2, false);
        x.met(3, 4, false);
        x.met(5, 6, false);
        Due.due("28 a chain of pairs", x.told(13), 2);
        x.met(0, 5, false);
        Due.due("28 a ring of three pairs", x.told(13), 3);
        x.met(7, 0, false);
        x.met(7, 2, false);
        Due.due("28 all four apart", x.told(13), 4);
        x.tear();
        x.met(0, 1, true);
        x.met(1, 0, false);
        Due.due("28 met and did not", x.told(13), NONE);
        x.tear();
        x.met(6, 7, false);
        Due.due("28 the last two", x.told(13), 2);
    }

    private static void promise29Write() {
        GiltCockcrow x = Due.in("n2 0;p0 0 0;");
        Due.due("29 write(1, 0)", x.write(1, 0, true), UNKNOWN);
        Due.due("29 write(-1, 0)", x.write(-1, 0, true), UNKNOWN);
        Due.due("29 write(0, 2)", x.write(0, 2, true), UNKNOWN);
        Due.due("29 write(0, -1)", x.write(0, -1, true), UNKNOWN);
        for (int i = 1; i <= 15; i++) {
            Due.due("29 write(0, 0)", x.write(0, 0, true), i);
            Due.due("29 told(14)", x.told(14), i);
        }
        Due.due("29 a sixteenth", x.write(0, 0, true), FULL);
        Due.due("29 a sixteenth of nobody", x.write(1, 0, true), UNKNOWN);
    }

    private static void promise30Tear() {
        GiltCockcrow x = Due.in("n2 0;p0 0 9;p0 0 0;");
        Due.due("30 tear() of nothing", x.tear(), 0);
        x.shadow(1, 1);
        x.met(0, 1, false);
        x.met(0, 1, true);
        x.write(0, 1, true);
        x.write(0, 1, true);
        x.write(0, 1, true);
        x.dawn(2);
        Due.due("30 tear()", x.tear(), 6);
        Due.due("30 SHADOWS", x.told(11), 0);
        Due.due("30 MET", x.told(12), 0);
        Due.due("30 EXPLAINED", x.told(13), 1);
        Due.due("30 THE BOOK", x.told(14), 0);
        Due.due("30 IS", x.is(0), 30);
        Due.due("30 WRONG", x.judge(), NONE);
        Due.due("30 DAYS stay", x.told(4), 2);
        Due.due("30 what can be undone stays", x.told(15), 1);
        Due.due("30 tear() again", x.tear(), 0);
        Due.due("30 without a town", new GiltCockcrow().tear(), 0);
    }

    private static void promise31Judge() {
        GiltCockcrow x = Due.in("n3 0;p2 0 9;p0 1 9;");
        x.write(0, 0, true);
        x.write(0, 2, false);
        x.write(1, 1, true);
        x.write(1, 0, false);
        Due.due("31 all is so", x.judge(), NONE);
        x.dawn(1);
        Due.due("31 the second person went on", x.judge(), 2);
        x.dawn(1);
        Due.due("31 the baker came", x.judge(), 1);
        x.step(0, 1);
        Due.due("31 the baker left", x.judge(), 0);
        x.step(0, 0);
        x.step(1, 0);
        Due.due("31 the last", x.judge(), 2);
        x.step(1, 1);
        Due.due("31 all is so again", x.judge(), NONE);
        x.write(1, 2, true);
        Due.due("31 a fifth that is not so", x.judge(), 4);
        Due.due("31 without a town", new GiltCockcrow().judge(), NONE);
    }

    private static void promise32Seed() {
        GiltCockcrow x = new GiltCockcrow();
        Due.due("32 seed(2147483647)", x.seed(2147483647), 0);
        Due.due("32 seed(-1)", x.seed(-1), OUTSIDE);
        Due.due("32 an int's end", x.seed(Integer.MIN_VALUE), OUTSIDE);
        Due.due("32 seed(5)", x.seed(5), 2147483647);
        Due.townOf(x, "n2 0;p0 0 0;");
        x.drift(1);
        // the draw of 5 is 0, so there are three draws
        Due.due("32 three draws", x.seed(0), 695785320L);
        Due.due("32 seed(0)", x.seed(0), 0);
    }

    private static void promise33Keep() {
        GiltCockcrow x = Due.in(Due.TOWN);
        x.dawn(2);
        Due.due("33 keep(2)", x.keep(2), UNKNOWN);
        Due.due("33 keep(-1)", x.keep(-1), UNKNOWN);
        Due.due("33 what is refused ends nothing", x.told(15), 1);
        Due.due("33 keep(1)", x.keep(1), 1);
        Due.due("33 nothing can be undone", x.undo(), NOT);
        Due.due("33 told(15)", x.told(15), 0);
        Due.due("33 DAYS stay", x.told(4), 2);
        Due.due("33 goBack(0) was not kept", x.goBack(0), NOT);
        x.dawn(1);
        Due.due("33 keep(1) again", x.keep(1), 1);
        x.dawn(5);
        x.goBack(1);
        Due.due("33 the later one", x.told(4), 3);
        GiltCockcrow y = new GiltCockcrow();
        y.seed(3);
        Due.due("33 without a town", y.keep(0), 1);
        y.seed(4);
        Due.due("34 without a town", y.goBack(0), 1);
        Due.due("34 the seed comes back", y.seed(0), 3);
    }

    private static void promise34GoBack() {
        GiltCockcrow x = Due.in(Due.TOWN);
        Due.due("34 goBack(2)", x.goBack(2), UNKNOWN);
        Due.due("34 goBack(-1)", x.goBack(-1), UNKNOWN);
        Due.due("34 goBack(0)", x.goBack(0), NOT);
        x.seed(11);
        x.drift(30);
        x.keep(0);
        String first = Due.all(x);
        x.seed(12);
        x.drift(30);
        x.keep(1);
        String second = Due.all(x);
        x.seed(13);
        x.drift(30);
        Due.dueTrue("34 they are unlike", !first.equals(second) && !first.equals(Due.all(x)));
        for (int i = 0; i < 2; i++) {
            Due.due("34 goBack(0)", x.goBack(0), 1);
            Due.dueTrue("34 all is as it was in 0", first.equals(Due.all(x)));
            Due.due("34 goBack(1)", x.goBack(1), 1);
            Due.dueTrue("34 all is as it was in 1", second.equals(Due.all(x)));
            x.drift(7);
            x.wipe();
            x.ear(0, 3);
        }
        x.shadow(1, 1);
        x.met(0, 1, false);
        x.write(0, 1, true);
        x.crow(1);
        x.goBack(0);
        Due.due("34 nothing can be undone", x.undo(), NOT);
        Due.due("34 what is seen stays", x.tear(), 3);
    }
}
