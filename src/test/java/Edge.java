/** Calls at their edges: what is taken, what is refused, and that a refused call leaves all as it was. */
final class Edge {
    interface Made {
        GiltCockcrow get();
    }

    interface Call {
        int on(GiltCockcrow x);
    }

    /** Numbers that are neither persons, layers, images nor bounds; as a shift some of them come around to 0 or 1. */
    static final int[] FAR = {
        Integer.MIN_VALUE, Integer.MIN_VALUE + 1, -1000000001, -256, -64, -33, -32, -31, -2,
        256, 1000, 65536, 1 << 30, Integer.MAX_VALUE - 1, Integer.MAX_VALUE,
    };

    private static final int MOST_UNDONE = 16;

    private Edge() {
    }

    /** A town in which all has come to be that can be, with more doings than can be undone and a text begun. */
    static GiltCockcrow busy() {
        GiltCockcrow x = Due.in(Due.TOWN);
        x.seed(1234);
        x.drift(4);
        x.keep(0);
        x.drift(4);
        x.keep(1);
        doMuch(x);
        seeSome(x);
        Due.townOf(x, "n2 0;x");
        x.seed(77);
        Due.feedAll(x, "n3 1;p0 2 4;");
        return x;
    }

    /** No town; but a text begun, a fault, a seed, and an image. */
    static GiltCockcrow none() {
        GiltCockcrow x = new GiltCockcrow();
        x.seed(5);
        x.keep(0);
        x.seed(6);
        Due.townOf(x, "n2 0;m1;m");
        Due.feedAll(x, "n3 1;p0 2 4;");
        return x;
    }

    /** The first day on which no more dawns come. */
    static GiltCockcrow onDay9001() {
        GiltCockcrow x = Due.in(Due.TOWN);
        for (int i = 0; i < 150; i++) {
            x.dawn(60);
        }
        x.keep(0);
        x.drift(1);
        x.keep(1);
        doMuchOnOneDay(x);
        seeSome(x);
        return x;
    }

    private static void doMuch(GiltCockcrow x) {
        doMuchOnOneDay(x);
        x.dawn(1);
        x.drift(2);
        x.dawn(3);
    }

    /** Eighteen doings: more than are kept. */
    private static void doMuchOnOneDay(GiltCockcrow x) {
        x.step(2, 5);
        x.ear(2, 9);
        for (int i = 1; i <= 4; i++) {
            x.deed(i);
            x.crow(i);
            x.ear(i, 9 - i);
        }
        x.wipe();
        x.step(5, 6);
        x.deed(5);
        x.leave(2, 6);
    }

    private static void seeSome(GiltCockcrow x) {
        x.shadow(5, 1);
        x.shadow(9, 0);
        x.met(0, 1, true);
        x.met(1, 2, false);
        x.write(0, 0, false);
        x.write(2, 5, true);
        x.write(3, 3, true);
    }

    /** The call is refused so, and whatever is asked behind it is answered as without it. */
    static void refused(String name, int want, Made made, Call call) {
        Due.due(name, call.on(made.get()), want);
        for (int way = 0; way <= MOST_UNDONE + 4; way++) {
            GiltCockcrow x = made.get();
            GiltCockcrow y = made.get();
            call.on(x);
            int after = follow(x, way);
            int without = follow(y, way);
            Due.due(name + ", then the call " + way, after, without);
            same(name + " changed something, seen behind " + way, x, y);
        }
    }

    /** Refused for a number that is too small, for one that is too large, and for all that is far from either. */
    static void refusedAround(String name, int want, int least, int most, Made made, Numbered call) {
        refused(name + " of " + (least - 1), want, made, x -> call.on(x, least - 1));
        refused(name + " of " + (most + 1), want, made, x -> call.on(x, most + 1));
        GiltCockcrow x = made.get();
        for (int far : FAR) {
            if (far < least || far > most) {
                Due.due(name + " of " + far, call.on(x, far), want);
            }
        }
        same(name + " of far numbers changed something", x, made.get());
    }

    interface Numbered {
        int on(GiltCockcrow x, int number);
    }

    static void same(String name, GiltCockcrow x, GiltCockcrow y) {
        String one = Due.all(x);
        String other = Due.all(y);
        Due.dueTrue(name + ": " + one + " / " + other, one.equals(other));
    }

    /** Each way shows something that the state alone does not: what can be undone, the images, the text, the seed. */
    private static int follow(GiltCockcrow x, int way) {
        int answer = 0;
        if (way <= MOST_UNDONE) {
            for (int i = 0; i < way; i++) {
                answer = x.undo();
            }
            return answer;
        }
        switch (way - MOST_UNDONE) {
            case 1: return x.goBack(0);
            case 2: return x.goBack(1);
            case 3: return x.town();
            default: return x.drift(9);
        }
    }
}
