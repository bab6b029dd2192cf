/** Promises 17 to 25: what is tried from now, as nothing else is done. */
public final class TriedTest {
    private static final int NONE = GiltCockcrow.NONE;
    private static final int UNKNOWN = GiltCockcrow.UNKNOWN;
    private static final int OUTSIDE = GiltCockcrow.OUTSIDE;
    private static final int NOT = GiltCockcrow.NOT;

    private TriedTest() {
    }

    public static void main(String[] args) {
        promise17Layers();
        promise18First();
        promise19Together();
        promise20AsNow();
        promise21Crows();
        promise21TheLeastLights();
        promise22Know();
        promise23Market();
        promise23TheFirstOfLikeOnes();
        promise24Torn();
        promise25Dark();
        triedChangesNothing();
        Due.end();
    }

    private static void promise17Layers() {
        GiltCockcrow x = Due.in(Due.TOWN);
        x.dawn(1);
        int[] next = {0b0000010, 0b0100000, 0b0000100, 0b0010000, 0b0000100, 0b0010000};
        for (int p = 0; p < 6; p++) {
            Due.due("17 layers(" + p + ", 0)", x.layers(p, 0), x.person(p, 1));
            Due.due("17 layers(" + p + ", 1)", x.layers(p, 1), next[p]);
        }
        for (int n = 0; n <= 60; n++) {
            GiltCockcrow y = Due.in(Due.TOWN);
            y.dawn(1);
            if (n > 0) {
                y.dawn(n);
            }
            for (int p = 0; p < 6; p++) {
                Due.due("17 layers(" + p + ", " + n + ")", x.layers(p, n), y.person(p, 1));
            }
        }
        Due.due("17 layers(0, 200): 133 dawns are heard", Due.in(Due.TOWN).layers(0, 200), 1 << 133 % 7);
        Due.due("17 layers(0, 201)", x.layers(0, 201), OUTSIDE);
        Due.due("17 layers(0, -1)", x.layers(0, -1), OUTSIDE);
        Due.due("17 layers(6, 201)", x.layers(6, 201), UNKNOWN);
        Due.due("17 layers(-1, 0)", x.layers(-1, 0), UNKNOWN);
    }

    private static void promise18First() {
        GiltCockcrow x = Due.in("n9 0;p0 0 9;p2 0 1;p3 0 3;p4 8 9;p0 4 0;m1,2,3,4,5,6,7,8,9,9,9,9;");
        for (int l = 0; l < 9; l++) {
            Due.due("18 first(0, " + l + ")", x.first(0, l), l);
        }
        // one light of twelve is heard by the baker: behind dawns 1, 13, 25 ..
        for (int l = 1; l < 9; l++) {
            Due.due("18 first(1, " + l + ")", x.first(1, l), 12 * (l - 1) + 1);
        }
        Due.due("18 first(2, 8)", x.first(2, 8), 1);
        Due.due("18 first(2, 6)", x.first(2, 6), 3);
        Due.due("18 first(2, 5)", x.first(2, 5), 13);
        Due.due("18 first(3, 0)", x.first(3, 0), 1);
        Due.due("18 first(3, 1)", x.first(3, 1), 3);
        Due.due("18 first(4, 4)", x.first(4, 4), 0);
        Due.due("18 first(4, 5)", x.first(4, 5), NONE);
        x.dawn(1);
        Due.due("18 the late one from an odd day", x.first(3, 1), 2);
        Due.due("18 first(5, 0)", x.first(5, 0), UNKNOWN);
        Due.due("18 first(-1, 0)", x.first(-1, 0), UNKNOWN);
        Due.due("18 first(0, 9)", x.first(0, 9), UNKNOWN);
        Due.due("18 first(0, -1)", x.first(0, -1), UNKNOWN);
        // a lad of nine layers who hears the 12th light alone: layer 1 needs eight dawns heard, at 96
        GiltCockcrow y = Due.in("n9 0;p3 0 1;m2,2,2,2,2,2,2,2,2,2,2,1;");
        Due.due("18 far off", y.first(0, 1), 96);
        // the late one hears on days 0, 22 ..: the eighth is 154
        GiltCockcrow z = Due.in("n9 0;p4 0 1;m1,2,2,2,2,2,2,2,2,2,2;");
        Due.due("18 within 200", z.first(0, 8), 155);
    }

    private static void promise19Together() {
        GiltCockcrow x = Due.in("n5 0;p0 0 9;p0 3 0;p2 1 9;p0 1 9;");
        Due.due("19 nobody", x.together(0), 0);
        Due.due("19 one", x.together(1), 0);
        Due.due("19 0 and 1", x.together(0b0011), 3);
        Due.due("19 0 and 2", x.together(0b0101), 1);
        Due.due("19 0 and 3", x.together(0b1001), NONE);
        Due.due("19 1 and 2", x.together(0b0110), 2);
        Due.due("19 0, 1 and 2", x.together(0b0111), 3);
        Due.due("19 2 and 3", x.together(0b1100), 0);
        Due.due("19 bits of no person", x.together(0b10000), UNKNOWN);
        Due.due("19 a negative number", x.together(-1), UNKNOWN);
        Due.due("19 the sign bit", x.together(Integer.MIN_VALUE), UNKNOWN);
        GiltCockcrow y = new GiltCockcrow();
        Due.due("19 nobody without a town", y.together(0), NOT);
        Due.due("19 somebody without a town", y.together(1), UNKNOWN);
        // a light that is heard on every 12th day: on 11, 23 ..
        GiltCockcrow z = Due.in("n9 0;p0 0 1;p0 8 0;p0 7 0;m2,2,2,2,2,2,2,2,2,2,2,1;");
        Due.due("19 at 96", z.together(0b011), 96);
        Due.due("19 at 84", z.together(0b101), 84);
        GiltCockcrow last = Due.in("n9 0;p4 0 1;p0 8 0;m2,2,2,2,2,2,2,2,2,2,2,1;");
        Due.due("19 odd days alone are not heard by the late one", last.together(0b011), NONE);
        last.crow(1);
        Due.due("19 on an even one it hears", last.person(0, 1), 0b10);
        GiltCockcrow far = Due.in("n9 0;p4 0 1;p0 8 0;p0 7 0;m2,1,2,2,2,2,2,2,2,2,2;");
        // of period 11: day 12, 34, 56 ..; the eighth at 12 + 7 * 22 = 166; behind it 167 dawns
        Due.due("19 at 167", far.together(0b011), 167);
        far.step(0, 7);
        far.step(1, 7);
        far.ear(0, 1);
        Due.due("19 at once", far.together(0b011), 0);
        GiltCockcrow out = Due.in("n9 0;p4 0 1;p0 8 0;p0 7 0;m2,2,1,2,2,2,2,2,2,2,2;");
        Due.due("19 day 2, 24 .. 156", out.together(0b011), 157);
        out.step(0, 8);
        out.step(1, 7);
        Due.due("19 eight to go round again", out.together(0b011), 157);
        out.dawn(3);
        Due.due("19 from day 3, one gone: 24 .. 156", out.together(0b011), 154);
        out.step(0, 7);
        out.step(1, 6);
        Due.due("19 from day 3, eight to go: 24 .. 178", out.together(0b011), 176);
    }

    private static void promise20AsNow() {
        Due.due("20 nobody", Due.in("n2 0;").asNow(), 1);
        Due.due("20 none who hears", Due.in("n9 0;p0 0 0;p2 3 4;").asNow(), 1);
        Due.due("20 a baker who hears", Due.in("n9 0;p2 3 5;").asNow(), NONE);
        Due.due("20 anybody", Due.in("n9 0;p0 0 9;").asNow(), 9);
        Due.due("20 a nun of eight", Due.in("n8 0;p1 0 9;").asNow(), 4);
        Due.due("20 a nun of two", Due.in("n2 0;p1 0 9;").asNow(), 1);
        Due.due("20 a lad", Due.in("n7 0;p3 0 9;").asNow(), 7);
        Due.due("20 a late one", Due.in("n7 0;p4 0 9;").asNow(), 13);
        Due.due("20 together", Due.in("n8 0;p1 0 9;p0 0 9;").asNow(), 8);
        Due.due("20 without a town", new GiltCockcrow().asNow(), NOT);
        GiltCockcrow full = Due.in("n2 0;p2 0 9;");
        full.dawn(1);
        Due.due("20 a baker who is on all", full.asNow(), 1);
        // the late one has heard nine behind 177 to 198 dawns, the other 162 behind 178
        Due.due("20 far off", Due.in("n9 0;p4 0 1;p0 0 2;m1,2,2,2,2,2,2,2,2,2,3;").asNow(), 178);
        // one has heard nine behind 97 to 108 dawns, the other eighteen behind 98
        GiltCockcrow far = Due.in("n9 0;p0 0 1;p0 0 2;m1,2,3,3,3,3,3,3,3,3,3,3;");
        Due.due("20 both around", far.asNow(), 98);
    }

    private static void promise21Crows() {
        GiltCockcrow x = Due.in(Due.TOWN);
        Due.due("21 nobody, how many", x.crows(0, 0), 0);
        Due.due("21 nobody, lights", x.crows(0, 1), 0);
        Due.due("21 one, lights", x.crows(0b100000, 1), 0);
        // 0 goes 1 on at each up to 5: to 4 there are four
        Due.due("21 0 and 5, how many", x.crows(0b100001, 0), 4);
        Due.due("21 0 and 5, lights", x.crows(0b100001, 1), 1111);
        // 3 goes back: from 6 to 4 by two; at 9 it alone hears, but 1 is less
        Due.due("21 3 and 5", x.crows(0b101000, 1), 11);
        // 1 goes from 3 to 4: by 2 each of 7: four crows
        Due.due("21 1 and 5", x.crows(0b100010, 1), 1111);
        // 3 is 5 ahead of 4, and loses 2 by each that both hear: two such, and one that 3 alone hears
        Due.due("21 3 and 4, how many", x.crows(0b011000, 0), 3);
        Due.due("21 3 and 4, lights", x.crows(0b011000, 1), 117);
        Due.due("21 out of reach", x.crows(0b111111, 0), NONE);
        Due.due("21 out of reach, lights", x.crows(0b111111, 1), NONE);
        Due.due("21 bits of no person", x.crows(0b1000000, 2), UNKNOWN);
        Due.due("21 what = 2", x.crows(1, 2), OUTSIDE);
        Due.due("21 what = -1", x.crows(1, -1), OUTSIDE);
        GiltCockcrow y = new GiltCockcrow();
        Due.due("21 without a town", y.crows(0, 0), NOT);
        Due.due("21 without a town, what = 2", y.crows(0, 2), OUTSIDE);
        Due.due("21 without a town, somebody", y.crows(1, 0), UNKNOWN);
    }

    private static void promise21TheLeastLights() {
        GiltCockcrow x = Due.in("n9 0;p0 0 9;p0 5 0;p0 6 0;");
        Due.due("21 five crows", x.crows(0b011, 1), 11111);
        Due.due("21 six are too many", x.crows(0b101, 0), NONE);
        GiltCockcrow late = Due.in("n4 0;p4 0 9;p0 1 0;");
        Due.due("21 the late one on an even day", late.crows(0b11, 0), 1);
        late.dawn(1);
        late.step(0, 0);
        Due.due("21 the late one on an odd day", late.crows(0b11, 0), NONE);
        GiltCockcrow apart = Due.in("n9 0;p0 0 9;p0 5 8;");
        Due.due("21 the light that one alone hears", apart.crows(0b11, 1), 99999);
        GiltCockcrow three = Due.in("n9 0;p0 0 9;p0 2 6;p0 3 3;");
        // the first must gain 2 on the second and 3 on the third
        Due.due("21 lights rise", three.crows(0b111, 1), 477);
        GiltCockcrow baker = Due.in("n9 0;p2 0 4;p0 3 0;");
        Due.due("21 a baker comes to it", baker.crows(0b11, 1), 111);
    }

    private static void promise22Know() {
        GiltCockcrow x = Due.in("n7 2;p0 0 5;p1 3 7;p2 2 3;p3 6 9;p4 1 6;p0 4 0;");
        int[] wants = {0b000001, 0b000101, 0b100101, 0b101101, 0b111101, 0b111111};
        for (int k = 0; k <= 9; k++) {
            Due.due("22 know(0, " + k + ")", x.know(0, k), wants[Math.min(k, 5)]);
        }
        Due.due("22 know(0, 10)", x.know(0, 10), OUTSIDE);
        Due.due("22 know(0, -1)", x.know(0, -1), OUTSIDE);
        Due.due("22 know(6, 10)", x.know(6, 10), UNKNOWN);
        Due.due("22 know(-1, 0)", x.know(-1, 0), UNKNOWN);
        GiltCockcrow same = Due.in("n3 0;p0 0 0;p0 0 0;p2 0 9;p0 1 0;");
        Due.due("22 seen on the same layer", same.know(0, 1), 0b0111);
        Due.due("22 no further", same.know(0, 9), 0b0111);
        same.dawn(1);
        Due.due("22 by one who is on two", same.know(0, 1), 0b0111);
        Due.due("22 and to the next", same.know(0, 2), 0b1111);
        GiltCockcrow none = Due.in("n3 1;p0 0 0;p0 2 0;");
        Due.due("22 it goes one way", none.know(0, 9), 0b01);
        Due.due("22 the other way", none.know(1, 1), 0b11);
    }

    private static void promise23Market() {
        GiltCockcrow x = Due.in("n4 0;p0 1 0;p0 1 0;p2 1 5;");
        Due.due("23 all on one", x.market(NONE), 1);
        Due.due("23 the lesser", x.market(1), 0);
        Due.due("23 none", x.market(0), NONE);
        x.dawn(1);
        Due.due("23 how many", x.market(NONE), 2);
        Due.due("23 market(1)", x.market(1), 0);
        Due.due("23 market(2)", x.market(2), 2);
        Due.due("23 market(3)", x.market(3), NONE);
        Due.due("23 market(4)", x.market(4), UNKNOWN);
        Due.due("23 market(-2)", x.market(-2), UNKNOWN);
        GiltCockcrow y = new GiltCockcrow();
        Due.due("23 without a town", y.market(NONE), 0);
        Due.due("23 market(0) without a town", y.market(0), UNKNOWN);
        Due.due("23 nobody", Due.in("n2 0;").market(NONE), 0);
        Due.due("23 nobody, market(0)", Due.in("n2 0;").market(0), NONE);
    }

    private static void promise23TheFirstOfLikeOnes() {
        // 0 is on 0 and 1, 1 is on 0 alone: 1 must have 0, so that both have one
        GiltCockcrow x = Due.in("n3 0;p2 0 5;p0 0 0;");
        x.dawn(1);
        Due.due("23 how many", x.market(NONE), 2);
        Due.due("23 market(0)", x.market(0), 1);
        Due.due("23 market(1)", x.market(1), 0);
        // nine layers, eight bakers who are on all: the last layer has none
        GiltCockcrow y = Due.in("n9 0;p2 0 9;p2 0 9;p2 0 9;p2 0 9;p2 0 9;p2 0 9;p2 0 9;p2 0 9;");
        y.dawn(8);
        Due.due("23 eight of nine", y.market(NONE), 8);
        for (int l = 0; l < 9; l++) {
            Due.due("23 market(" + l + ")", y.market(l), l < 8 ? l : NONE);
        }
        y.step(0, 8);
        Due.due("23 all on all but one: still eight", y.market(NONE), 8);
        Due.due("23 the first layer has the lesser of the others", y.market(0), 1);
        Due.due("23 the last but one has none", y.market(7), NONE);
        Due.due("23 the last has the one who is there alone", y.market(8), 0);
    }

    private static void promise24Torn() {
        GiltCockcrow x = Due.in("n4 0;p2 0 9;p2 1 9;p0 1 0;");
        Due.due("24 none", x.torn(0, 1), 0);
        x.dawn(1);
        Due.due("24 torn(0, 1)", x.torn(0, 1), 0b001);
        Due.due("24 torn(1, 0)", x.torn(1, 0), 0b001);
        Due.due("24 torn(1, 2)", x.torn(1, 2), 0b010);
        Due.due("24 torn(0, 2)", x.torn(0, 2), 0);
        Due.due("24 torn(1, 1)", x.torn(1, 1), UNKNOWN);
        Due.due("24 torn(0, 4)", x.torn(0, 4), UNKNOWN);
        Due.due("24 torn(4, 0)", x.torn(4, 0), UNKNOWN);
        Due.due("24 torn(-1, 0)", x.torn(-1, 0), UNKNOWN);
        Due.due("24 torn(0, -1)", x.torn(0, -1), UNKNOWN);
        Due.due("24 without a town", new GiltCockcrow().torn(0, 1), UNKNOWN);
    }

    private static void promise25Dark() {
        GiltCockcrow x = new GiltCockcrow();
        Due.due("25 dark(0, 0)", x.dark(0, 0), 1000000000);
        Due.due("25 dark(0, 50)", x.dark(0, 50), 1000000000);
        Due.due("25 dark(1, 0)", x.dark(1, 0), 0);
        Due.due("25 dark(60, 100)", x.dark(60, 100), 1000000000);
        Due.due("25 dark(2, 33)", x.dark(2, 33), 108900000);
        // cut at each: 10 to the 9 by 1/2 thrice three is 1953125, then 976562, 488281, 244140
        Due.due("25 dark(9, 50)", x.dark(9, 50), 1953125);
        Due.due("25 dark(10, 50)", x.dark(10, 50), 976562);
        Due.due("25 dark(30, 50)", x.dark(30, 50), 0);
        // cut only at the end these would be one more
        Due.due("25 dark(6, 99)", x.dark(6, 99), 941480148);
        Due.due("25 dark(11, 33)", x.dark(11, 33), 5053);
        Due.due("25 dark(14, 90)", x.dark(14, 90), 228767923);
        Due.due("25 dark(60, 99)", x.dark(60, 99), 547156620);
        Due.due("25 dark(61, 0)", x.dark(61, 0), OUTSIDE);
        Due.due("25 dark(-1, 0)", x.dark(-1, 0), OUTSIDE);
        Due.due("25 dark(0, 101)", x.dark(0, 101), OUTSIDE);
        Due.due("25 dark(0, -1)", x.dark(0, -1), OUTSIDE);
    }

    private static void triedChangesNothing() {
        GiltCockcrow x = Due.in(Due.TOWN);
        x.dawn(7);
        x.deed(2);
        String before = Due.all(x);
        x.layers(0, 99);
        x.first(0, 1);
        x.together(3);
        x.asNow();
        x.crows(3, 1);
        x.know(0, 9);
        x.market(0);
        x.torn(0, 1);
        x.dark(9, 9);
        Due.dueTrue("what is tried changes nothing", before.equals(Due.all(x)));
    }
}
