import java.util.Random;

/** Runs of calls by chance, always the same ones, each answer against that of PlainCockcrow. */
public final class RandomRunsTest {
    private static final int RUNS = 1500;
    private static final int CALLS = 512;

    private final Random random;
    private final GiltCockcrow x = new GiltCockcrow();
    private final PlainCockcrow y = new PlainCockcrow();
    private final String run;
    private int left = CALLS;

    private RandomRunsTest(int number) {
        random = new Random(number);
        run = "run " + number + " ";
    }

    public static void main(String[] args) {
        int runs = args.length > 0 ? Integer.parseInt(args[0]) : RUNS;
        for (int number = 0; number < runs; number++) {
            new RandomRunsTest(number).go();
        }
        Due.end();
    }

    private void go() {
        while (left > 0) {
            if (left == CALLS || random.nextInt(120) == 0) {
                newTown();
            } else {
                call(random.nextInt(34));
            }
        }
    }

    private void due(String call, int got, int want) {
        left--;
        Due.due(run + call, got, want);
    }

    private void newTown() {
        String text = townText();
        for (int i = random.nextInt(4); i == 0; i = random.nextInt(3)) {
            text = spoilt(text);
        }
        for (int i = 0; i < text.length(); i++) {
            due("feed", x.feed(text.charAt(i)), y.feed(text.charAt(i)));
        }
        due("town of " + text, x.town(), y.town());
        due("fault of " + text, x.fault(), y.fault());
    }

    private String townText() {
        int n = 2 + random.nextInt(8);
        StringBuilder out = new StringBuilder(blanks()).append('n').append(blanks()).append(n).append(' ');
        out.append(random.nextInt(n)).append(blanks()).append(';');
        int persons = random.nextInt(9);
        int lights = random.nextInt(3) == 0 ? -1 : random.nextInt(persons + 1);
        for (int p = 0; p <= persons; p++) {
            if (p == lights) {
                out.append('m').append(1 + random.nextInt(9));
                for (int i = random.nextInt(12); i > 0; i--) {
                    out.append(blanks()).append(',').append(blanks()).append(1 + random.nextInt(9));
                }
                out.append(';');
            }
            if (p < persons) {
                out.append('p').append(random.nextInt(5)).append(' ').append(blanks()).append(random.nextInt(n));
                out.append(' ').append(random.nextInt(10)).append(blanks()).append(';');
            }
        }
        return out.append(blanks()).toString();
    }

    private String blanks() {
        return "  ".substring(random.nextInt(8) == 0 ? random.nextInt(2) : 2);
    }

    private String spoilt(String text) {
        String signs = "npm;, 0123456789x-";
        int at = random.nextInt(text.length() + 1);
        char sign = signs.charAt(random.nextInt(signs.length()));
        switch (random.nextInt(5)) {
            case 0: return text.substring(0, at);
            case 1: return text.substring(0, at) + sign + text.substring(at);
            case 2: return text.substring(0, at) + text.substring(Math.min(at + 1, text.length()));
            case 3: return text.substring(0, at) + sign + text.substring(Math.min(at + 1, text.length()));
            default: return text + text.substring(at);
        }
    }

    private int some(int most) {
        switch (random.nextInt(24)) {
            case 0: return -1;
            case 1: return most + 1;
            case 2: return random.nextInt();
            default: return random.nextInt(most + 1);
        }
    }

    private int p() {
        return some(Math.max(x.told(2) - 1, 0));
    }

    private int l() {
        return some(Math.max(x.told(0) - 1, 0));
    }

    private int set() {
        int all = (1 << x.told(2)) - 1;
        int some = random.nextInt(4) == 0 ? all : random.nextInt(all + 1);
        return random.nextInt(20) == 0 ? random.nextInt() : random.nextInt(all + 1) & some;
    }

    private void call(int which) {
        if (which < 17) {
            callDoing(which);
        } else {
            callTried(which);
        }
    }

    private void callDoing(int which) {
        int a = some(9);
        int p = p();
        int l = l();
        switch (which) {
            case 0: due("told " + a, x.told(a), y.told(a)); break;
            case 1: tell(); break;
            case 2: due("person", x.person(p, some5(a)), y.person(p, some5(a))); break;
            case 3: due("onLayer " + l, x.onLayer(l), y.onLayer(l)); break;
            case 4: due("dawn " + a, x.dawn(a), y.dawn(a)); break;
            case 5: {
                int n = random.nextInt(10) == 0 ? some(60) : some(2);
                due("dawn " + n, x.dawn(n), y.dawn(n));
                break;
            }
            case 6: due("crow " + a, x.crow(a), y.crow(a)); break;
            case 7: due("step", x.step(p, l), y.step(p, l)); break;
            case 8: due("leave", x.leave(p, l), y.leave(p, l)); break;
            case 9: due("ear", x.ear(p, a), y.ear(p, a)); break;
            case 10: due("deed", x.deed(p), y.deed(p)); break;
            case 11: due("wipe", x.wipe(), y.wipe()); break;
            case 12: due("drift " + a, x.drift(a), y.drift(a)); break;
            case 13: due("undo", x.undo(), y.undo()); break;
            case 14: due("undo", x.undo(), y.undo()); break;
            case 15: due("leave", x.leave(p, l), y.leave(p, l)); break;
            default: due("fault", x.fault(), y.fault()); break;
        }
    }

    private static int some5(int a) {
        return a > 5 ? a - 5 : a;
    }

    private void tell() {
        for (int what = 0; what <= 15; what++) {
            due("told " + what, x.told(what), y.told(what));
        }
        for (int p = 0; p < x.told(2); p++) {
            for (int what = 0; what <= 4; what++) {
                due("person " + p + " " + what, x.person(p, what), y.person(p, what));
            }
        }
    }

    private void callTried(int which) {
        int a = some(9);
        int p = p();
        int q = p();
        int l = l();
        int m = l();
        int set = set();
        boolean did = random.nextBoolean();
        switch (which) {
            case 17: due("layers", x.layers(p, 20 * a + l), y.layers(p, 20 * a + l)); break;
            case 18: due("first", x.first(p, l), y.first(p, l)); break;
            case 19: due("together " + set, x.together(set), y.together(set)); break;
            case 20: due("asNow", x.asNow(), y.asNow()); break;
            case 21: due("crows " + set, x.crows(set, a - 1), y.crows(set, a - 1)); break;
            case 22: due("crows 0 " + set, x.crows(set, 0), y.crows(set, 0)); break;
            case 23: due("crows 1 " + set, x.crows(set, 1), y.crows(set, 1)); break;
            case 24: due("know " + p + " " + a, x.know(p, a % 5), y.know(p, a % 5)); break;
            case 25: market(l); break;
            case 26: due("torn", x.torn(l, m), y.torn(l, m)); break;
            case 27: due("dark", x.dark(6 * a, 10 * l + p), y.dark(6 * a, 10 * l + p)); break;
            case 28: due("shadow", x.shadow(a, l), y.shadow(a, l)); break;
            case 29: is(); break;
            case 30: due("met", x.met(p, q, did), y.met(p, q, did)); break;
            case 31: due("write", x.write(p, l, did), y.write(p, l, did)); break;
            case 32: due("judge", x.judge(), y.judge()); break;
            default: images(a); break;
        }
    }

    private void market(int l) {
        due("market " + l, x.market(l), y.market(l));
        for (int layer = -1; layer < x.told(0); layer++) {
            due("market " + layer, x.market(layer), y.market(layer));
        }
    }

    private void is() {
        for (int what = -1; what <= 3; what++) {
            due("is " + what, x.is(what), y.is(what));
        }
    }

    private void images(int a) {
        int i = some(1);
        switch (a) {
            case 0: due("tear", x.tear(), y.tear()); break;
            case 2: case 3: due("keep", x.keep(i), y.keep(i)); break;
            case 4: case 5: due("goBack", x.goBack(i), y.goBack(i)); break;
            default: {
                int v = random.nextInt();
                due("seed", x.seed(v), y.seed(v));
                break;
            }
        }
    }
}
