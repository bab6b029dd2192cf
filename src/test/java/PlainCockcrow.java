import java.util.ArrayList;
import java.util.Collections;
import java.util.HashSet;
import java.util.List;
import java.util.Set;
import java.util.TreeMap;
import java.util.TreeSet;

/** The document once more, by other means: sets of numbers, copies of everything, and trying all there is. */
final class PlainCockcrow {
    static final int NONE = -1;
    static final int UNKNOWN = -1000000001;
    static final int OUTSIDE = -1000000002;
    static final int NOT = -1000000003;
    static final int FULL = -1000000004;

    private static final class Person {
        int kind;
        int ear;
        int heard;
        TreeSet<Integer> on = new TreeSet<>();

        Person copy() {
            Person other = new Person();
            other.kind = kind;
            other.ear = ear;
            other.heard = heard;
            other.on.addAll(on);
            return other;
        }
    }

    private static final class World {
        List<Person> people = new ArrayList<>();
        int days;
        TreeSet<Integer> marks = new TreeSet<>();
        long seed;

        World copy() {
            World other = new World();
            for (Person person : people) {
                other.people.add(person.copy());
            }
            other.days = days;
            other.marks.addAll(marks);
            other.seed = seed;
            return other;
        }
    }

    private static final class Token {
        final char kind;
        final int at;
        final String figures;

        Token(char kind, int at, String figures) {
            this.kind = kind;
            this.at = at;
            this.figures = figures;
        }
    }

    private static final class Fault extends Exception {
        private static final long serialVersionUID = 1L;
        final int number;
        final int at;

        Fault(int number, int at) {
            this.number = number;
            this.at = at;
        }
    }

    private StringBuilder text = new StringBuilder();
    private int n;
    private int s;
    private List<Integer> lights = new ArrayList<>();
    private World world = new World();
    private List<World> undo = new ArrayList<>();
    private World[] images = new World[2];
    private int faultAt = NONE;
    private List<int[]> shadows = new ArrayList<>();
    private List<int[]> mets = new ArrayList<>();
    private List<int[]> book = new ArrayList<>();

    int feed(int letter) {
        if (letter < 0 || letter > 255) {
            return OUTSIDE;
        }
        if (text.length() == 240) {
            return FULL;
        }
        text.append((char) letter);
        return text.length();
    }

    int town() {
        List<Token> tokens = tokens(text.toString());
        text = new StringBuilder();
        int newN = 0;
        int newS = 0;
        List<Integer> newLights = new ArrayList<>();
        World next = new World();
        next.seed = world.seed;
        try {
            if (tokens.size() > 1) {
                int i = 0;
                want(tokens, i++, "n");
                newN = number(tokens, i++, 2, 9);
                newS = number(tokens, i++, 0, newN - 1);
                want(tokens, i++, ";");
                while (want(tokens, i, "npm$") != '$') {
                    Token head = tokens.get(i++);
                    boolean again = head.kind == 'n' || head.kind == 'm' && !newLights.isEmpty();
                    if (again || head.kind == 'p' && next.people.size() == 8) {
                        throw new Fault(3, head.at);
                    }
                    if (head.kind == 'p') {
                        Person person = new Person();
                        person.kind = number(tokens, i++, 0, 4);
                        person.on.add(number(tokens, i++, 0, newN - 1));
                        person.ear = number(tokens, i++, 0, 9);
                        want(tokens, i++, ";");
                        next.people.add(person);
                    } else {
                        newLights.add(number(tokens, i++, 1, 9));
                        while (want(tokens, i++, newLights.size() == 12 ? ";" : ";,") == ',') {
                            newLights.add(number(tokens, i++, 1, 9));
                        }
                    }
                }
            }
        } catch (Fault fault) {
            faultAt = fault.at;
            return -10 - fault.number;
        }
        faultAt = NONE;
        n = newN;
        s = newS;
        lights = newLights;
        world = next;
        undo.clear();
        images = new World[2];
        tear();
        return next.people.size();
    }

    private static List<Token> tokens(String from) {
        List<Token> out = new ArrayList<>();
        int i = 0;
        while (i < from.length()) {
            char c = from.charAt(i);
            if (c == ' ') {
                i++;
            } else if (c >= '0' && c <= '9') {
                int end = i;
                while (end < from.length() && from.charAt(end) >= '0' && from.charAt(end) <= '9') {
                    end++;
                }
                out.add(new Token('0', i, from.substring(i, end)));
                i = end;
            } else {
                out.add(new Token("npm;,".indexOf(c) >= 0 ? c : '?', i, ""));
                i++;
            }
        }
        out.add(new Token('$', from.length(), ""));
        return out;
    }

    private static char want(List<Token> tokens, int i, String kinds) throws Fault {
        Token token = tokens.get(i);
        if (kinds.indexOf(token.kind) < 0) {
            throw new Fault(1, token.at);
        }
        return token.kind;
    }

    private static int number(List<Token> tokens, int i, int least, int most) throws Fault {
        want(tokens, i, "0");
        Token token = tokens.get(i);
        if (token.figures.length() > 3) {
            throw new Fault(2, token.at);
        }
        int value = Integer.parseInt(token.figures);
        if (value < least || value > most) {
            throw new Fault(2, token.at);
        }
        return value;
    }

    int fault() {
        return faultAt;
    }

    int told(int what) {
        switch (what) {
            case 0: return n;
            case 1: return s;
            case 2: return people().size();
            case 3: return text.length();
            case 4: return world.days;
            case 5: return n == 0 ? 0 : light(world.days);
            case 6: return bits(world.marks);
            case 7: return bits(on(world.marks, s));
            case 8: return tornSet();
            case 9: return cover();
            case 10: return fullest();
            case 11: return shadows.size();
            case 12: return mets.size();
            case 13: return explained();
            case 14: return book.size();
            case 15: return undo.size();
            default: return OUTSIDE;
        }
    }

    int person(int p, int what) {
        if (noPerson(p)) {
            return UNKNOWN;
        }
        Person one = people().get(p);
        switch (what) {
            case 0: return one.kind;
            case 1: return bits(one.on);
            case 2: return one.ear;
            case 3: return one.heard;
            case 4: {
                int set = 0;
                for (int q = 0; q < people().size(); q++) {
                    if (q != p && !Collections.disjoint(one.on, people().get(q).on)) {
                        set += 1 << q;
                    }
                }
                return set;
            }
            default: return OUTSIDE;
        }
    }

    int onLayer(int x) {
        if (noLayer(x)) {
            return UNKNOWN;
        }
        int set = 0;
        for (int p = 0; p < people().size(); p++) {
            if (people().get(p).on.contains(x)) {
                set += 1 << p;
            }
        }
        return set;
    }

    int dawn(int many) {
        if (refusal(many) != 0) {
            return refusal(many);
        }
        push();
        for (int i = 0; i < many; i++) {
            dawn(world);
        }
        return world.days;
    }

    int crow(int light) {
        if (light < 1 || light > 9) {
            return OUTSIDE;
        }
        if (n == 0) {
            return NOT;
        }
        push();
        return crow(world, light);
    }

    int step(int p, int x) {
        if (noPerson(p) || noLayer(x)) {
            return UNKNOWN;
        }
        push();
        int was = bits(people().get(p).on);
        people().get(p).on = new TreeSet<>(Set.of(x));
        return was;
    }

    int leave(int p, int x) {
        if (noPerson(p) || noLayer(x)) {
            return UNKNOWN;
        }
        if (!people().get(p).on.contains(x) || people().get(p).on.size() == 1) {
            return NOT;
        }
        push();
        people().get(p).on.remove(x);
        return bits(people().get(p).on);
    }

    int ear(int p, int e) {
        if (noPerson(p)) {
            return UNKNOWN;
        }
        if (e < 0 || e > 9) {
            return OUTSIDE;
        }
        push();
        int was = people().get(p).ear;
        people().get(p).ear = e;
        return was;
    }

    int deed(int p) {
        if (noPerson(p)) {
            return UNKNOWN;
        }
        push();
        world.marks.addAll(people().get(p).on);
        return bits(world.marks);
    }

    int wipe() {
        if (n == 0) {
            return NOT;
        }
        push();
        int was = bits(world.marks);
        world.marks.clear();
        return was;
    }

    int drift(int many) {
        if (refusal(many) != 0) {
            return refusal(many);
        }
        push();
        for (int i = 0; i < many; i++) {
            if (!people().isEmpty()) {
                int what = draw(5);
                Person one = people().get(draw(people().size()));
                if (what == 0) {
                    one.on = new TreeSet<>(Set.of(draw(n)));
                } else if (what == 1) {
                    one.ear = draw(10);
                } else if (what == 2) {
                    world.marks.addAll(one.on);
                } else if (what == 3) {
                    crow(world, 1 + draw(9));
                }
            }
            dawn(world);
        }
        return world.days;
    }

    int undo() {
        if (undo.isEmpty()) {
            return NOT;
        }
        long seed = world.seed;
        world = undo.remove(undo.size() - 1);
        world.seed = seed;
        return undo.size();
    }

    int layers(int p, int many) {
        if (noPerson(p)) {
            return UNKNOWN;
        }
        if (many < 0 || many > 200) {
            return OUTSIDE;
        }
        World then = world.copy();
        for (int i = 0; i < many; i++) {
            dawn(then);
        }
        return bits(then.people.get(p).on);
    }

    int first(int p, int x) {
        if (noPerson(p) || noLayer(x)) {
            return UNKNOWN;
        }
        World then = world.copy();
        for (int i = 0; i <= 200; i++) {
            if (then.people.get(p).on.contains(x)) {
                return i;
            }
            dawn(then);
        }
        return NONE;
    }

    int together(int set) {
        if (noSet(set)) {
            return UNKNOWN;
        }
        if (n == 0) {
            return NOT;
        }
        World then = world.copy();
        for (int i = 0; i <= 200; i++) {
            if (common(then, set)) {
                return i;
            }
            dawn(then);
        }
        return NONE;
    }

    int asNow() {
        if (n == 0) {
            return NOT;
        }
        World then = world.copy();
        for (int i = 1; i <= 2000; i++) {
            dawn(then);
            boolean same = true;
            for (int p = 0; p < people().size(); p++) {
                same &= people().get(p).on.equals(then.people.get(p).on);
            }
            if (same) {
                return i;
            }
        }
        return NONE;
    }

    /** Every text of lights is tried, by how many, rising, each from the start. */
    int crows(int set, int what) {
        if (noSet(set)) {
            return UNKNOWN;
        }
        if (what < 0 || what > 1) {
            return OUTSIDE;
        }
        if (n == 0) {
            return NOT;
        }
        List<World> row = new ArrayList<>();
        List<Integer> numbers = new ArrayList<>();
        row.add(world.copy());
        numbers.add(0);
        for (int many = 0; many <= 5; many++) {
            for (int i = 0; i < row.size(); i++) {
                if (common(row.get(i), set)) {
                    return what == 0 ? many : numbers.get(i);
                }
            }
            List<World> nextRow = new ArrayList<>();
            List<Integer> nextNumbers = new ArrayList<>();
            Set<String> seen = new HashSet<>();
            for (int i = 0; many < 5 && i < row.size(); i++) {
                for (int light = 1; light <= 9; light++) {
                    World then = row.get(i).copy();
                    crow(then, light);
                    // of worlds that are alike the one of the least number is first, and goes on like the others
                    StringBuilder key = new StringBuilder();
                    for (Person person : then.people) {
                        key.append(person.on);
                    }
                    if (seen.add(key.toString())) {
                        nextRow.add(then);
                        nextNumbers.add(numbers.get(i) * 10 + light);
                    }
                }
            }
            row = nextRow;
            numbers = nextNumbers;
        }
        return NONE;
    }

    int know(int p, int k) {
        if (noPerson(p)) {
            return UNKNOWN;
        }
        if (k < 0 || k > 9) {
            return OUTSIDE;
        }
        int set = 1 << p;
        for (int q = 0; k > 0 && q < people().size(); q++) {
            int ahead = know(p, k - 1);
            boolean knows = (ahead >> q & 1) == 1;
            for (int r = 0; r < people().size(); r++) {
                if ((ahead >> r & 1) == 1) {
                    knows |= !Collections.disjoint(on(people().get(r).on, s), people().get(q).on);
                }
            }
            set |= knows ? 1 << q : 0;
        }
        return set;
    }

    int market(int x) {
        if (x != NONE && noLayer(x)) {
            return UNKNOWN;
        }
        int[] best = new int[n];
        int[] row = new int[n];
        int[] most = {-1};
        share(0, 0, 0, row, best, most);
        return x == NONE ? most[0] : best[x];
    }

    private void share(int x, int used, int count, int[] row, int[] best, int[] most) {
        if (count + n - x <= most[0]) {
            return;
        }
        if (x == n) {
            most[0] = count;
            System.arraycopy(row, 0, best, 0, n);
            return;
        }
        for (int p = 0; p < people().size(); p++) {
            if ((used >> p & 1) == 0 && people().get(p).on.contains(x)) {
                row[x] = p;
                share(x + 1, used | 1 << p, count + 1, row, best, most);
            }
        }
        row[x] = NONE;
        share(x + 1, used, count, row, best, most);
    }

    int torn(int x, int y) {
        if (noLayer(x) || noLayer(y) || x == y) {
            return UNKNOWN;
        }
        int set = 0;
        for (int p = 0; p < people().size(); p++) {
            if (people().get(p).on.containsAll(List.of(x, y))) {
                set += 1 << p;
            }
        }
        return set;
    }

    int dark(int many, int q) {
        if (many < 0 || many > 60 || q < 0 || q > 100) {
            return OUTSIDE;
        }
        return many == 0 ? 1000000000 : (int) ((long) dark(many - 1, q) * q / 100);
    }

    int shadow(int light, int m) {
        if (light < 1 || light > 9 || m < 0 || m >= n) {
            return OUTSIDE;
        }
        if (shadows.size() == 6) {
            return FULL;
        }
        shadows.add(new int[] {light, m});
        return shadows.size();
    }

    int is(int what) {
        if (what < 0 || what > 2) {
            return OUTSIDE;
        }
        if (n == 0) {
            return NOT;
        }
        List<int[]> fits = new ArrayList<>();
        for (int code = 0; code < 40; code++) {
            boolean fit = code / 10 != 2;
            for (int[] shadow : shadows) {
                fit &= far(code, shadow[0]) == shadow[1];
            }
            if (fit) {
                fits.add(new int[] {code});
            }
        }
        if (what == 0) {
            return fits.size();
        }
        if (what == 1) {
            return fits.isEmpty() ? NONE : fits.get(0)[0];
        }
        int best = NONE;
        int least = fits.size();
        for (int light = 1; light <= 9; light++) {
            TreeMap<Integer, Integer> parts = new TreeMap<>();
            for (int[] fit : fits) {
                parts.merge(far(fit[0], light), 1, Integer::sum);
            }
            int greatest = parts.isEmpty() ? 0 : Collections.max(parts.values());
            if (greatest < least) {
                least = greatest;
                best = light;
            }
        }
        return best;
    }

    private int far(int code, int light) {
        World small = new World();
        Person one = new Person();
        one.kind = code / 10;
        one.ear = code % 10;
        one.on.add(0);
        small.people.add(one);
        crow(small, light);
        return one.on.first();
    }

    int met(int p, int q, boolean did) {
        if (noPerson(p) || noPerson(q) || p == q) {
            return UNKNOWN;
        }
        if (mets.size() == 10) {
            return FULL;
        }
        mets.add(new int[] {p, q, did ? 1 : 0});
        return mets.size();
    }

    int write(int p, int x, boolean is) {
        if (noPerson(p) || noLayer(x)) {
            return UNKNOWN;
        }
        if (book.size() == 15) {
            return FULL;
        }
        book.add(new int[] {p, x, is ? 1 : 0});
        return book.size();
    }

    int tear() {
        int had = shadows.size() + mets.size() + book.size();
        shadows.clear();
        mets.clear();
        book.clear();
        return had;
    }

    int judge() {
        for (int i = 0; i < book.size(); i++) {
            int[] entry = book.get(i);
            if (people().get(entry[0]).on.contains(entry[1]) != (entry[2] == 1)) {
                return i;
            }
        }
        return NONE;
    }

    int seed(int v) {
        if (v < 0) {
            return OUTSIDE;
        }
        int was = (int) world.seed;
        world.seed = v;
        return was;
    }

    int keep(int i) {
        if (i != 0 && i != 1) {
            return UNKNOWN;
        }
        images[i] = world.copy();
        undo.clear();
        return 1;
    }

    int goBack(int i) {
        if (i != 0 && i != 1) {
            return UNKNOWN;
        }
        if (images[i] == null) {
            return NOT;
        }
        world = images[i].copy();
        undo.clear();
        return 1;
    }

    private List<Person> people() {
        return world.people;
    }

    private boolean noPerson(int p) {
        return p < 0 || p >= people().size();
    }

    private boolean noLayer(int x) {
        return x < 0 || x >= n;
    }

    private boolean noSet(int set) {
        return set < 0 || set >= 1 << people().size();
    }

    private int refusal(int dawns) {
        if (dawns < 1 || dawns > 60) {
            return OUTSIDE;
        }
        if (n == 0) {
            return NOT;
        }
        return world.days > 9000 ? FULL : 0;
    }

    private void push() {
        undo.add(world.copy());
        if (undo.size() > 16) {
            undo.remove(0);
        }
    }

    private int light(int day) {
        return lights.isEmpty() ? 5 : lights.get(day % lights.size());
    }

    private void dawn(World which) {
        crow(which, light(which.days));
        which.days++;
    }

    private int crow(World which, int light) {
        int set = 0;
        for (int p = 0; p < which.people.size(); p++) {
            Person one = which.people.get(p);
            if (one.ear >= light) {
                set += 1 << p;
                one.heard = Math.min(999999, one.heard + 1);
                if (one.kind == 0) {
                    one.on = on(one.on, 1);
                } else if (one.kind == 1) {
                    one.on = on(one.on, 2);
                } else if (one.kind == 2) {
                    one.on.addAll(on(one.on, 1));
                } else if (one.kind == 3) {
                    one.on = on(one.on, n - 1);
                } else if (which.days % 2 == 0) {
                    one.on = on(one.on, 1);
                }
            }
        }
        return set;
    }

    private TreeSet<Integer> on(Set<Integer> set, int k) {
        TreeSet<Integer> out = new TreeSet<>();
        for (int x : set) {
            out.add((x + k) % n);
        }
        return out;
    }

    private static int bits(Set<Integer> set) {
        int out = 0;
        for (int x : set) {
            out += 1 << x;
        }
        return out;
    }

    private boolean common(World which, int set) {
        TreeSet<Integer> left = new TreeSet<>();
        for (int x = 0; x < n; x++) {
            left.add(x);
        }
        for (int p = 0; p < which.people.size(); p++) {
            if ((set >> p & 1) == 1) {
                left.retainAll(which.people.get(p).on);
            }
        }
        return !left.isEmpty();
    }

    private int draw(int many) {
        world.seed = (world.seed * 1103515245L + 12345L) % (1L << 31);
        return (int) (world.seed / 65536 % many);
    }

    private int tornSet() {
        int set = 0;
        for (int p = 0; p < people().size(); p++) {
            set += people().get(p).on.size() >= 2 ? 1 << p : 0;
        }
        return set;
    }

    private int cover() {
        Set<Integer> all = new TreeSet<>();
        for (Person person : people()) {
            all.addAll(person.on);
        }
        for (int size = 0; size <= people().size(); size++) {
            for (int set = 0; set < 1 << people().size(); set++) {
                Set<Integer> some = new TreeSet<>();
                for (int p = 0; p < people().size(); p++) {
                    if ((set >> p & 1) == 1) {
                        some.addAll(people().get(p).on);
                    }
                }
                if (Integer.bitCount(set) == size && some.equals(all)) {
                    return set;
                }
            }
        }
        return NONE;
    }

    private int fullest() {
        int best = NONE;
        for (int x = 0; x < n && !people().isEmpty(); x++) {
            if (best == NONE || Integer.bitCount(onLayer(x)) > Integer.bitCount(onLayer(best))) {
                best = x;
            }
        }
        return best;
    }

    private int explained() {
        int[] places = new int[people().size()];
        int[] best = {Integer.MAX_VALUE};
        place(0, 0, places, best);
        return best[0] == Integer.MAX_VALUE ? NONE : best[0];
    }

    private void place(int p, int used, int[] places, int[] best) {
        if (p == places.length) {
            for (int[] met : mets) {
                if ((places[met[0]] == places[met[1]]) != (met[2] == 1)) {
                    return;
                }
            }
            best[0] = Math.min(best[0], used);
            return;
        }
        for (int x = 0; x <= used; x++) {
            places[p] = x;
            place(p + 1, Math.max(used, x + 1), places, best);
        }
    }
}
