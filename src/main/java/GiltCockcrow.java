/** A town whose days lie one on the other, and who is on which of them; the document is ../shared/DOC.md. */
public final class GiltCockcrow {
    public static final int NONE = -1, UNKNOWN = -1000000001, OUTSIDE = -1000000002, NOT = -1000000003, FULL = -1000000004;

    private static final int BILLION = 1000000000;

    private static final int MOST_LETTERS = 240;
    private static final int MOST_LAYERS = 9;
    private static final int ALL_LAYERS = (1 << MOST_LAYERS) - 1;
    private static final int MOST_PERSONS = 8;
    private static final int MOST_LIGHTS = 12;
    private static final int BRIGHTEST = 9;
    private static final int UNTOLD_LIGHT = 5;
    private static final int BEST_EAR = 9;

    private static final int ANYBODY = 0;
    private static final int NUN = 1;
    private static final int BAKER = 2;
    private static final int LAD = 3;
    private static final int LATE = 4;

    private static final int MOST_HEARD = 999999;
    private static final int MOST_DAWNS = 60;
    private static final int LAST_DAY = 9000;
    private static final int MOST_UNDONE = 16;
    private static final int IMAGES = 2;

    private static final int FARTHEST = 200;
    private static final int FARTHEST_BACK = 2000;
    private static final int MOST_CROWS = 5;
    private static final int MOST_CROW_TRIES = 10000;
    private static final int DEEPEST = 9;
    private static final int MOST_DARK = 60;

    private static final int MOST_SHADOWS = 6;
    private static final int MOST_MET = 10;
    private static final int MOST_ENTRIES = 15;

    private static final int CANNOT_STAND = 1;
    private static final int BAD_NUMBER = 2;
    private static final int ONCE_TOO_OFTEN = 3;

    private final Town town = new Town();
    private final Town draft = new Town();
    private final Reader reader = new Reader();
    private final State now = new State();
    private final State trial = new State();
    private final Past past = new Past();
    private final Images images = new Images();
    private final CrowSearch crowSearch = new CrowSearch();
    private final Stalls stalls = new Stalls();
    private final Shadows shadows = new Shadows();
    private final Meetings meetings = new Meetings();
    private final Book book = new Book();
    private int faultPlace = NONE;
    private int seedNow = 0;

    public GiltCockcrow() {
    }

    // ---- the town

    public int feed(int letter) {
        if (letter < 0 || letter > 255) {
            return OUTSIDE;
        }
        if (reader.length >= MOST_LETTERS) {
            return FULL;
        }
        return reader.add(letter);
    }

    public int town() {
        int number = reader.readInto(draft);
        faultPlace = reader.place;
        if (number != 0) {
            return -10 - number;
        }
        town.copyFrom(draft);
        now.begin(town);
        past.forget();
        images.forget();
        tearAll();
        return town.personCount;
    }

    public int fault() {
        return faultPlace;
    }

    public int told(int what) {
        switch (what) {
            case 0: return town.layerCount;
            case 1: return town.sign;
            case 2: return town.personCount;
            case 3: return reader.length;
            case 4: return now.days;
            case 5: return town.lightOf(now.days);
            case 6: return now.marks;
            case 7: return town.goneOn(now.marks, town.sign);
            case 8: return now.onSeveral();
            case 9: return now.cover();
            case 10: return now.fullest();
            case 11: return shadows.count;
            case 12: return meetings.count;
            case 13: return meetings.explained(town.personCount);
            case 14: return book.count;
            case 15: return past.count;
            default: return OUTSIDE;
        }
    }

    public int person(int p, int what) {
        if (!town.hasPerson(p)) {
            return UNKNOWN;
        }
        switch (what) {
            case 0: return town.kinds[p];
            case 1: return now.layers[p];
            case 2: return now.ears[p];
            case 3: return now.heard[p];
            case 4: return now.whoIsOn(now.layers[p]) & ~(1 << p);
            default: return OUTSIDE;
        }
    }

    public int onLayer(int x) {
        if (!town.hasLayer(x)) {
            return UNKNOWN;
        }
        return now.whoIsOn(1 << x);
    }

    // ---- what is done

    public int dawn(int n) {
        int refusal = refusalOfDawns(n);
        if (refusal != 0) {
            return refusal;
        }
        past.remember(now);
        for (int i = 0; i < n; i++) {
            now.passDawn(town);
        }
        return now.days;
    }

    public int crow(int light) {
        if (light < 1 || light > BRIGHTEST) {
            return OUTSIDE;
        }
        if (!town.isThere()) {
            return NOT;
        }
        past.remember(now);
        return now.hearCrow(town, light);
    }

    public int step(int p, int x) {
        if (!town.hasPerson(p) || !town.hasLayer(x)) {
            return UNKNOWN;
        }
        past.remember(now);
        int before = now.layers[p];
        now.layers[p] = 1 << x;
        return before;
    }

    public int leave(int p, int x) {
        if (!town.hasPerson(p) || !town.hasLayer(x)) {
            return UNKNOWN;
        }
        int others = now.layers[p] & ~(1 << x);
        if (others == now.layers[p] || others == 0) {
            return NOT;
        }
        past.remember(now);
        now.layers[p] = others;
        return others;
    }

    public int ear(int p, int e) {
        if (!town.hasPerson(p)) {
            return UNKNOWN;
        }
        if (e < 0 || e > BEST_EAR) {
            return OUTSIDE;
        }
        past.remember(now);
        int before = now.ears[p];
        now.ears[p] = e;
        return before;
    }

    public int deed(int p) {
        if (!town.hasPerson(p)) {
            return UNKNOWN;
        }
        past.remember(now);
        now.marks |= now.layers[p];
        return now.marks;
    }

    public int wipe() {
        if (!town.isThere()) {
            return NOT;
        }
        past.remember(now);
        int before = now.marks;
        now.marks = 0;
        return before;
    }

    public int drift(int n) {
        int refusal = refusalOfDawns(n);
        if (refusal != 0) {
            return refusal;
        }
        past.remember(now);
        for (int i = 0; i < n; i++) {
            if (town.personCount > 0) {
                doByDraws();
            }
            now.passDawn(town);
        }
        return now.days;
    }

    public int undo() {
        if (past.count == 0) {
            return NOT;
        }
        past.restore(now);
        return past.count;
    }

    // ---- tried

    public int layers(int p, int n) {
        if (!town.hasPerson(p)) {
            return UNKNOWN;
        }
        if (n < 0 || n > FARTHEST) {
            return OUTSIDE;
        }
        trial.copyFrom(now);
        for (int i = 0; i < n; i++) {
            trial.passDawn(town);
        }
        return trial.layers[p];
    }

    public int first(int p, int x) {
        if (!town.hasPerson(p) || !town.hasLayer(x)) {
            return UNKNOWN;
        }
        trial.copyFrom(now);
        for (int n = 0; n <= FARTHEST; n++) {
            if ((trial.layers[p] & (1 << x)) != 0) {
                return n;
            }
            trial.passDawn(town);
        }
        return NONE;
    }

    public int together(int set) {
        if (!town.hasAll(set)) {
            return UNKNOWN;
        }
        if (!town.isThere()) {
            return NOT;
        }
        trial.copyFrom(now);
        for (int n = 0; n <= FARTHEST; n++) {
            if (trial.areTogether(set)) {
                return n;
            }
            trial.passDawn(town);
        }
        return NONE;
    }

    public int asNow() {
        if (!town.isThere()) {
            return NOT;
        }
        trial.copyFrom(now);
        for (int n = 1; n <= FARTHEST_BACK; n++) {
            trial.passDawn(town);
            if (trial.isWhere(now)) {
                return n;
            }
        }
        return NONE;
    }

    public int crows(int set, int what) {
        if (!town.hasAll(set)) {
            return UNKNOWN;
        }
        if (what < 0 || what > 1) {
            return OUTSIDE;
        }
        if (!town.isThere()) {
            return NOT;
        }
        int many = crowSearch.fewest(town, now, set);
        if (what == 0 || many == NONE) {
            return many;
        }
        return crowSearch.figures(many);
    }

    public int know(int p, int k) {
        if (!town.hasPerson(p)) {
            return UNKNOWN;
        }
        if (k < 0 || k > DEEPEST) {
            return OUTSIDE;
        }
        int knowing = 1 << p;
        for (int depth = 0; depth < k; depth++) {
            int seenOn = town.goneOn(now.layersOf(knowing), town.sign);
            knowing |= now.whoIsOn(seenOn);
        }
        return knowing;
    }

    public int market(int x) {
        if (x != NONE && !town.hasLayer(x)) {
            return UNKNOWN;
        }
        int many = stalls.share(now);
        return x == NONE ? many : stalls.keepers[x];
    }

    public int torn(int x, int y) {
        if (!town.hasLayer(x) || !town.hasLayer(y) || x == y) {
            return UNKNOWN;
        }
        return now.whoIsOn(1 << x) & now.whoIsOn(1 << y);
    }

    public int dark(int n, int q) {
        if (n < 0 || n > MOST_DARK || q < 0 || q > 100) {
            return OUTSIDE;
        }
        long odds = BILLION;
        for (int i = 0; i < n; i++) {
            odds = odds * q / 100;
        }
        return (int) odds;
    }

    // ---- what is seen

    public int shadow(int light, int m) {
        if (light < 1 || light > BRIGHTEST || !town.hasLayer(m)) {
            return OUTSIDE;
        }
        if (shadows.count >= MOST_SHADOWS) {
            return FULL;
        }
        return shadows.add(light, m);
    }

    public int is(int what) {
        if (what < 0 || what > 2) {
            return OUTSIDE;
        }
        if (!town.isThere()) {
            return NOT;
        }
        switch (what) {
            case 0: return shadows.howManyFit(town);
            case 1: return shadows.firstFit(town);
            default: return shadows.lightToWatch(town);
        }
    }

    public int met(int p, int q, boolean did) {
        if (!town.hasPerson(p) || !town.hasPerson(q) || p == q) {
            return UNKNOWN;
        }
        if (meetings.count >= MOST_MET) {
            return FULL;
        }
        return meetings.add(p, q, did);
    }

    public int write(int p, int x, boolean is) {
        if (!town.hasPerson(p) || !town.hasLayer(x)) {
            return UNKNOWN;
        }
        if (book.count >= MOST_ENTRIES) {
            return FULL;
        }
        return book.add(p, x, is);
    }

    public int tear() {
        return tearAll();
    }

    public int judge() {
        return book.firstWrong(now);
    }

    // ---- draws, images

    public int seed(int v) {
        if (v < 0) {
            return OUTSIDE;
        }
        int before = seedNow;
        seedNow = v;
        return before;
    }

    public int keep(int i) {
        if (i < 0 || i >= IMAGES) {
            return UNKNOWN;
        }
        images.take(i, now, seedNow);
        past.forget();
        return 1;
    }

    public int goBack(int i) {
        if (i < 0 || i >= IMAGES) {
            return UNKNOWN;
        }
        if (!images.kept[i]) {
            return NOT;
        }
        now.copyFrom(images.states[i]);
        seedNow = images.seeds[i];
        past.forget();
        return 1;
    }

    private int refusalOfDawns(int n) {
        if (n < 1 || n > MOST_DAWNS) {
            return OUTSIDE;
        }
        if (!town.isThere()) {
            return NOT;
        }
        return now.days > LAST_DAY ? FULL : 0;
    }

    private int tearAll() {
        int had = shadows.count + meetings.count + book.count;
        shadows.count = 0;
        meetings.count = 0;
        book.count = 0;
        return had;
    }

    private int draw(int n) {
        if (n <= 0) {
            return 0;
        }
        // the wrap-around of int keeps the low 31 bits, which are all that is left over by 2 to the 31
        seedNow = (seedNow * 1103515245 + 12345) & 0x7fffffff;
        return seedNow / 65536 % n;
    }

    private void doByDraws() {
        int what = draw(5);
        int p = draw(town.personCount);
        switch (what) {
            case 0:
                now.layers[p] = 1 << draw(town.layerCount);
                break;
            case 1:
                now.ears[p] = draw(BEST_EAR + 1);
                break;
            case 2:
                now.marks |= now.layers[p];
                break;
            case 3:
                now.hearCrow(town, 1 + draw(BRIGHTEST));
                break;
            default:
                break;
        }
    }

    /** What a text tells: it stays so until the next text that has no fault. */
    private static final class Town {
        final int[] kinds = new int[MOST_PERSONS];
        final int[] starts = new int[MOST_PERSONS];
        final int[] startEars = new int[MOST_PERSONS];
        final int[] lights = new int[MOST_LIGHTS];
        /** 0: there is no town. */
        int layerCount = 0;
        int sign = 0;
        int personCount = 0;
        int lightCount = 0;

        void clear() {
            layerCount = 0;
            sign = 0;
            personCount = 0;
            lightCount = 0;
        }

        void copyFrom(Town other) {
            System.arraycopy(other.kinds, 0, kinds, 0, MOST_PERSONS);
            System.arraycopy(other.starts, 0, starts, 0, MOST_PERSONS);
            System.arraycopy(other.startEars, 0, startEars, 0, MOST_PERSONS);
            System.arraycopy(other.lights, 0, lights, 0, MOST_LIGHTS);
            layerCount = other.layerCount;
            sign = other.sign;
            personCount = other.personCount;
            lightCount = other.lightCount;
        }

        boolean isThere() {
            return layerCount > 0;
        }

        boolean hasPerson(int p) {
            return p >= 0 && p < personCount;
        }

        boolean hasLayer(int x) {
            return x >= 0 && x < layerCount;
        }

        boolean hasAll(int set) {
            return (set & ~allPersons()) == 0;
        }

        int allPersons() {
            return (1 << personCount) - 1;
        }

        int lightOf(int day) {
            if (!isThere()) {
                return 0;
            }
            return lightCount > 0 ? lights[day % lightCount] : UNTOLD_LIGHT;
        }

        /** How far one who hears a crow goes, by the kind: less than there are layers. */
        int strideOf(int kind) {
            if (layerCount <= 0) {
                return 0;
            }
            switch (kind) {
                case NUN: return 2 % layerCount;
                case LAD: return layerCount - 1;
                default: return 1;
            }
        }

        int goneOn(int set, int k) {
            if (layerCount <= 0) {
                return set;
            }
            return (set << k | set >> (layerCount - k)) & ((1 << layerCount) - 1);
        }

        /** On which layers one of that kind is who was on the set and heard a crow. */
        int behindCrow(int kind, int set, int day) {
            if (kind == BAKER) {
                return set | goneOn(set, 1);
            }
            if (kind == LATE && day % 2 != 0) {
                return set;
            }
            return goneOn(set, strideOf(kind));
        }
    }

    /** The text as it comes, letter by letter, and its reading. */
    private static final class Reader {
        final int[] letters = new int[MOST_LETTERS];
        int length = 0;
        int at = 0;
        int fault = 0;
        int place = NONE;

        int add(int letter) {
            if (length < MOST_LETTERS) {
                letters[length] = letter;
                length++;
            }
            return length;
        }

        /** The number of the first fault, 0 without one; with one, what came into the town is not to be used. */
        int readInto(Town into) {
            into.clear();
            at = 0;
            fault = 0;
            place = NONE;
            skipBlanks();
            // a clause has a letter at least, so there are no more clauses than letters
            for (int i = 0; i < MOST_LETTERS && at < length && fault == 0; i++) {
                readClause(into);
                skipBlanks();
            }
            length = 0;
            return fault;
        }

        private void readClause(Town into) {
            int word = letterHere();
            if (word == 'n') {
                readLayers(into);
            } else if (!into.isThere()) {
                blame(CANNOT_STAND, at);
            } else if (word == 'p') {
                readPerson(into);
            } else if (word == 'm') {
                readLights(into);
            } else {
                blame(CANNOT_STAND, at);
            }
        }

        private void readLayers(Town into) {
            if (into.isThere()) {
                blame(ONCE_TOO_OFTEN, at);
                return;
            }
            at++;
            into.layerCount = readNumber(2, MOST_LAYERS);
            into.sign = readNumber(0, into.layerCount - 1);
            readWord(';');
        }

        private void readPerson(Town into) {
            if (into.personCount >= MOST_PERSONS) {
                blame(ONCE_TOO_OFTEN, at);
                return;
            }
            at++;
            int p = into.personCount;
            into.kinds[p] = readNumber(0, LATE);
            into.starts[p] = readNumber(0, into.layerCount - 1);
            into.startEars[p] = readNumber(0, BEST_EAR);
            readWord(';');
            into.personCount++;
        }

        private void readLights(Town into) {
            if (into.lightCount > 0) {
                blame(ONCE_TOO_OFTEN, at);
                return;
            }
            at++;
            for (int i = 0; i < MOST_LIGHTS; i++) {
                into.lights[i] = readNumber(1, BRIGHTEST);
                into.lightCount++;
                skipBlanks();
                if (fault != 0 || letterHere() != ',' || i == MOST_LIGHTS - 1) {
                    break;
                }
                at++;
            }
            readWord(';');
        }

        /** A number within its bounds; what comes with a fault is not used. */
        private int readNumber(int least, int most) {
            if (fault != 0) {
                return 0;
            }
            skipBlanks();
            int from = at;
            int value = 0;
            while (at < length && isFigure(letterHere())) {
                // this may wrap around, but then there are too many figures whatever the value is
                value = value * 10 + letterHere() - '0';
                at++;
            }
            int figures = at - from;
            if (figures == 0) {
                blame(CANNOT_STAND, from);
            } else if (figures > 3 || value < least || value > most) {
                blame(BAD_NUMBER, from);
            }
            return value;
        }

        private void readWord(int word) {
            if (fault != 0) {
                return;
            }
            skipBlanks();
            if (letterHere() == word) {
                at++;
            } else {
                blame(CANNOT_STAND, at);
            }
        }

        private void skipBlanks() {
            while (at < length && letterHere() == ' ') {
                at++;
            }
        }

        private int letterHere() {
            return at >= 0 && at < length ? letters[at] : NONE;
        }

        private static boolean isFigure(int letter) {
            return letter >= '0' && letter <= '9';
        }

        /** Reading goes from left to right, so the first fault that is blamed is the one to tell. */
        private void blame(int number, int where) {
            if (fault == 0) {
                fault = number;
                place = where;
            }
        }
    }

    /** All that changes by crows, dawns and doings: section 2 of the document. Who is not there is on no layer. */
    private static final class State {
        final int[] layers = new int[MOST_PERSONS];
        final int[] ears = new int[MOST_PERSONS];
        final int[] heard = new int[MOST_PERSONS];
        int days = 0;
        int marks = 0;

        void begin(Town town) {
            for (int p = 0; p < MOST_PERSONS; p++) {
                layers[p] = town.hasPerson(p) ? 1 << town.starts[p] : 0;
                ears[p] = town.hasPerson(p) ? town.startEars[p] : 0;
                heard[p] = 0;
            }
            days = 0;
            marks = 0;
        }

        void copyFrom(State other) {
            System.arraycopy(other.layers, 0, layers, 0, MOST_PERSONS);
            System.arraycopy(other.ears, 0, ears, 0, MOST_PERSONS);
            System.arraycopy(other.heard, 0, heard, 0, MOST_PERSONS);
            days = other.days;
            marks = other.marks;
        }

        /** Who hears it. */
        int hearCrow(Town town, int light) {
            int hearers = 0;
            for (int p = 0; p < MOST_PERSONS; p++) {
                if (town.hasPerson(p) && ears[p] >= light) {
                    layers[p] = town.behindCrow(town.kinds[p], layers[p], days);
                    heard[p] = Math.min(heard[p] + 1, MOST_HEARD);
                    hearers |= 1 << p;
                }
            }
            return hearers;
        }

        void passDawn(Town town) {
            hearCrow(town, town.lightOf(days));
            days++;
        }

        /** Persons who are on one of these layers at least. */
        int whoIsOn(int set) {
            int who = 0;
            for (int p = 0; p < MOST_PERSONS; p++) {
                if ((layers[p] & set) != 0) {
                    who |= 1 << p;
                }
            }
            return who;
        }

        /** All persons: each is on a layer at any time. */
        int everybody() {
            return whoIsOn(ALL_LAYERS);
        }

        /** Layers on which one of these persons is at least. */
        int layersOf(int set) {
            int on = 0;
            for (int p = 0; p < MOST_PERSONS; p++) {
                if ((set & (1 << p)) != 0) {
                    on |= layers[p];
                }
            }
            return on;
        }

        /** Whether these persons have a layer in common: so it is for nobody, too. */
        boolean areTogether(int set) {
            int common = ALL_LAYERS;
            for (int p = 0; p < MOST_PERSONS; p++) {
                if ((set & (1 << p)) != 0) {
                    common &= layers[p];
                }
            }
            return common != 0;
        }

        /** Whether all persons are on just the layers where they are in the other state. */
        boolean isWhere(State other) {
            for (int p = 0; p < MOST_PERSONS; p++) {
                if (layers[p] != other.layers[p]) {
                    return false;
                }
            }
            return true;
        }

        int onSeveral() {
            int several = 0;
            for (int p = 0; p < MOST_PERSONS; p++) {
                if (Integer.bitCount(layers[p]) > 1) {
                    several |= 1 << p;
                }
            }
            return several;
        }

        /** Sets are tried as they rise, so the first of the fewest is the least. */
        int cover() {
            int all = everybody();
            int wanted = layersOf(all);
            int best = all;
            for (int set = 0; set < all; set++) {
                if (Integer.bitCount(set) < Integer.bitCount(best) && layersOf(set) == wanted) {
                    best = set;
                }
            }
            return best;
        }

        int fullest() {
            int best = NONE;
            int most = 0;
            for (int x = 0; x < MOST_LAYERS; x++) {
                int many = Integer.bitCount(whoIsOn(1 << x));
                if (many > most) {
                    most = many;
                    best = x;
                }
            }
            return best;
        }
    }

    /** What can be undone: the states ahead of the latest doings, in a ring. */
    private static final class Past {
        final State[] states = new State[MOST_UNDONE];
        int next = 0;
        int count = 0;

        Past() {
            for (int i = 0; i < MOST_UNDONE; i++) {
                states[i] = new State();
            }
        }

        void remember(State now) {
            states[next].copyFrom(now);
            next = next + 1 < MOST_UNDONE ? next + 1 : 0;
            count = Math.min(count + 1, MOST_UNDONE);
        }

        void restore(State into) {
            if (count == 0) {
                return;
            }
            next = next > 0 ? next - 1 : MOST_UNDONE - 1;
            count--;
            into.copyFrom(states[next]);
        }

        void forget() {
            next = 0;
            count = 0;
        }
    }

    /** States that are kept by a number, each with its seed. */
    private static final class Images {
        final State[] states = new State[IMAGES];
        final int[] seeds = new int[IMAGES];
        final boolean[] kept = new boolean[IMAGES];

        Images() {
            for (int i = 0; i < IMAGES; i++) {
                states[i] = new State();
            }
        }

        void take(int i, State now, int seed) {
            states[i].copyFrom(now);
            seeds[i] = seed;
            kept[i] = true;
        }

        void forget() {
            for (int i = 0; i < IMAGES; i++) {
                kept[i] = false;
            }
        }
    }

    /**
     * The fewest crows out of time that bring persons together. Where a person comes to depends only on how many
     * of the crows it hears, not on their order: so lights that rise are enough, and they are the least number, too.
     */
    private static final class CrowSearch {
        static final int COLUMNS = MOST_CROWS + 1;
        final int[] lights = new int[MOST_CROWS];
        /** The layers of each person behind 0, 1 .. crows that it heard. */
        final int[] behind = new int[MOST_PERSONS * COLUMNS];

        int fewest(Town town, State now, int set) {
            fillBehind(town, now);
            for (int many = 0; many <= MOST_CROWS; many++) {
                if (findLights(now, set, many)) {
                    return many;
                }
            }
            return NONE;
        }

        int figures(int many) {
            int number = 0;
            for (int i = 0; i < many && i < MOST_CROWS; i++) {
                number = number * 10 + lights[i];
            }
            return number;
        }

        private void fillBehind(Town town, State now) {
            for (int p = 0; p < MOST_PERSONS; p++) {
                int set = now.layers[p];
                for (int h = 0; h < COLUMNS; h++) {
                    behind[p * COLUMNS + h] = set;
                    set = town.behindCrow(town.kinds[p], set, now.days);
                }
            }
        }

        private boolean findLights(State now, int set, int many) {
            for (int i = 0; i < many; i++) {
                lights[i] = 1;
            }
            for (int i = 0; i < MOST_CROW_TRIES; i++) {
                if (bringTogether(now, set, many)) {
                    return true;
                }
                if (!nextLights(many)) {
                    return false;
                }
            }
            return false;
        }

        private boolean bringTogether(State now, int set, int many) {
            int common = ALL_LAYERS;
            for (int p = 0; p < MOST_PERSONS && common != 0; p++) {
                if ((set & (1 << p)) != 0) {
                    common &= behind[p * COLUMNS + heardOf(now.ears[p], many)];
                }
            }
            return common != 0;
        }

        private int heardOf(int ear, int many) {
            int heard = 0;
            for (int i = 0; i < many; i++) {
                if (lights[i] <= ear) {
                    heard++;
                }
            }
            return heard;
        }

        /** The next greater lights that do not fall; false behind the last. */
        private boolean nextLights(int many) {
            for (int i = many - 1; i >= 0; i--) {
                if (lights[i] < BRIGHTEST) {
                    int light = lights[i] + 1;
                    for (int k = i; k < many; k++) {
                        lights[k] = light;
                    }
                    return true;
                }
            }
            return false;
        }
    }

    /** The market: a person for each layer, as many layers as can be. */
    private static final class Stalls {
        static final int SETS = 1 << MOST_PERSONS;
        /** The most layers, from a layer on, that can be had without a set of persons: a row of sets each. */
        final int[] most = new int[(MOST_LAYERS + 1) * SETS];
        final int[] keepers = new int[MOST_LAYERS];

        /** How many layers have a keeper. */
        int share(State now) {
            int all = now.everybody();
            for (int x = MOST_LAYERS - 1; x >= 0; x--) {
                int who = now.whoIsOn(1 << x);
                for (int taken = 0; taken <= all; taken++) {
                    most[x * SETS + taken] = mostFrom(x, who, taken);
                }
            }
            chooseKeepers(now);
            return most[0];
        }

        private int mostFrom(int x, int who, int taken) {
            int best = mostBehind(x, taken);
            for (int p = 0; p < MOST_PERSONS; p++) {
                int one = 1 << p;
                if ((who & one & ~taken) != 0) {
                    best = Math.max(best, 1 + mostBehind(x, taken | one));
                }
            }
            return best;
        }

        /** The row behind the last layer is never written: there is nothing more to be had. */
        private int mostBehind(int x, int taken) {
            return most[(x + 1) * SETS + taken];
        }

        private void chooseKeepers(State now) {
            int taken = 0;
            for (int x = 0; x < MOST_LAYERS; x++) {
                keepers[x] = keeperFor(x, now.whoIsOn(1 << x), taken);
                if (keepers[x] != NONE) {
                    taken |= 1 << keepers[x];
                }
            }
        }

        private int keeperFor(int x, int who, int taken) {
            for (int p = 0; p < MOST_PERSONS; p++) {
                int one = 1 << p;
                if ((who & one & ~taken) != 0 && 1 + mostBehind(x, taken | one) == most[x * SETS + taken]) {
                    return p;
                }
            }
            return NONE;
        }
    }

    /** How far an unknown person went at which light, and what it can be. */
    private static final class Shadows {
        static final int[] KINDS = {ANYBODY, NUN, LAD};
        final int[] lights = new int[MOST_SHADOWS];
        final int[] moves = new int[MOST_SHADOWS];
        final int[] parts = new int[MOST_LAYERS];
        int count = 0;

        int add(int light, int m) {
            if (count < MOST_SHADOWS) {
                lights[count] = light;
                moves[count] = m;
                count++;
            }
            return count;
        }

        int howManyFit(Town town) {
            int many = 0;
            for (int kind : KINDS) {
                for (int ear = 0; ear <= BEST_EAR; ear++) {
                    many += fits(town, kind, ear) ? 1 : 0;
                }
            }
            return many;
        }

        int firstFit(Town town) {
            for (int kind : KINDS) {
                for (int ear = 0; ear <= BEST_EAR; ear++) {
                    if (fits(town, kind, ear)) {
                        return 10 * kind + ear;
                    }
                }
            }
            return NONE;
        }

        int lightToWatch(Town town) {
            int best = NONE;
            int least = howManyFit(town);
            for (int light = 1; light <= BRIGHTEST; light++) {
                int part = greatestPart(town, light);
                if (part < least) {
                    least = part;
                    best = light;
                }
            }
            return best;
        }

        private int greatestPart(Town town, int light) {
            for (int m = 0; m < MOST_LAYERS; m++) {
                parts[m] = 0;
            }
            int greatest = 0;
            for (int kind : KINDS) {
                for (int ear = 0; ear <= BEST_EAR; ear++) {
                    if (fits(town, kind, ear)) {
                        int m = moveOf(town, kind, ear, light);
                        parts[m]++;
                        greatest = Math.max(greatest, parts[m]);
                    }
                }
            }
            return greatest;
        }

        private boolean fits(Town town, int kind, int ear) {
            for (int i = 0; i < count; i++) {
                if (moveOf(town, kind, ear, lights[i]) != moves[i]) {
                    return false;
                }
            }
            return true;
        }

        private int moveOf(Town town, int kind, int ear, int light) {
            return ear >= light ? town.strideOf(kind) : 0;
        }
    }

    /** Who met whom and who did not, in a town of which nothing is known. */
    private static final class Meetings {
        static final int SETS = 1 << MOST_PERSONS;
        /** More layers than there are persons: it cannot be. */
        static final int CANNOT_BE = 1000;
        final int[] ones = new int[MOST_MET];
        final int[] others = new int[MOST_MET];
        final boolean[] dids = new boolean[MOST_MET];
        /** Whether a set of persons can have been all who were on one layer. */
        final boolean[] isOneLayer = new boolean[SETS];
        /** On how many layers a set of persons was at least. */
        final int[] fewest = new int[SETS];
        int count = 0;

        int add(int p, int q, boolean did) {
            if (count < MOST_MET) {
                ones[count] = p;
                others[count] = q;
                dids[count] = did;
                count++;
            }
            return count;
        }

        int explained(int personCount) {
            int all = (1 << personCount) - 1;
            fewest[0] = 0;
            for (int set = 1; set <= all; set++) {
                isOneLayer[set] = canBeOneLayer(set);
                fewest[set] = fewestFor(set);
            }
            return fewest[all] > MOST_PERSONS ? NONE : fewest[all];
        }

        private boolean canBeOneLayer(int set) {
            for (int i = 0; i < count; i++) {
                boolean one = (set & (1 << ones[i])) != 0;
                boolean other = (set & (1 << others[i])) != 0;
                if (dids[i] ? one != other : one && other) {
                    return false;
                }
            }
            return true;
        }

        /** The least person of the set is on some layer, with some of the rest: each choice of them is tried. */
        private int fewestFor(int set) {
            int least = set & -set;
            int rest = set & ~least;
            int best = fewestWith(least, rest);
            for (int part = rest; part > 0; part = (part - 1) & rest) {
                best = Math.min(best, fewestWith(least | part, rest & ~part));
            }
            return best;
        }

        private int fewestWith(int layer, int rest) {
            return isOneLayer[layer] ? 1 + fewest[rest] : CANNOT_BE;
        }
    }

    /** The almanac: entries on whether persons are on layers. */
    private static final class Book {
        final int[] persons = new int[MOST_ENTRIES];
        final int[] places = new int[MOST_ENTRIES];
        final boolean[] are = new boolean[MOST_ENTRIES];
        int count = 0;

        int add(int p, int x, boolean is) {
            if (count < MOST_ENTRIES) {
                persons[count] = p;
                places[count] = x;
                are[count] = is;
                count++;
            }
            return count;
        }

        int firstWrong(State now) {
            for (int i = 0; i < count; i++) {
                boolean isThere = (now.layers[persons[i]] & (1 << places[i])) != 0;
                if (isThere != are[i]) {
                    return i;
                }
            }
            return NONE;
        }
    }
}
