/** Sausages that burst. The words in capitals in the comments are those of the document. */
public final class BurstSkins {
    public static final int BAD = -1, STATE = -2, FULL = -3, NONE = -9;
    public static final int NO = -1000000;

    private static final int FACES = 4;
    private static final int ALL_SPOTS = 15;
    private static final int MOST_TEXT = 300;
    private static final int MOST_TESTS = 20;
    private static final int IMAGES = 2;
    private static final int MOST_PRICKS = 99;
    private static final int MOST_HEAT = 99;
    private static final int SPLIT = 1, POPPED = 2;
    private static final int FIRE = 0, TURN = 1, PRICK = 2, SIMMER = 3;

    private static final int CAUSES = 5;
    private static final int CAUSE_NONE = 0, CAUSE_THIN = 1, CAUSE_FULL = 2, CAUSE_FIRES = 3, CAUSE_SKIN = 4;

    private static final int ORDERS = 24;
    private static final int[] CELLS_OF_ORDERS = {
        0, 1, 2, 3, 0, 1, 3, 2, 0, 2, 1, 3, 0, 2, 3, 1, 0, 3, 1, 2, 0, 3, 2, 1,
        1, 0, 2, 3, 1, 0, 3, 2, 1, 2, 0, 3, 1, 2, 3, 0, 1, 3, 0, 2, 1, 3, 2, 0,
        2, 0, 1, 3, 2, 0, 3, 1, 2, 1, 0, 3, 2, 1, 3, 0, 2, 3, 0, 1, 2, 3, 1, 0,
        3, 0, 1, 2, 3, 0, 2, 1, 3, 1, 0, 2, 3, 1, 2, 0, 3, 2, 0, 1, 3, 2, 1, 0};

    private final Recipe recipe = new Recipe();
    private final Recipe draft = new Recipe();
    private final Recipe changed = new Recipe();
    private final Reader reader = new Reader();
    private final Moment moment = new Moment();
    private final Journey journey = new Journey();
    private final Moment[] images = {new Moment(), new Moment()};
    private final boolean[] kept = new boolean[IMAGES];
    private final int[] heats = {40, 90, 90, 40};
    private final int[] salts = new int[MOST_TESTS];
    private final int[] crumbsOf = new int[MOST_TESTS];
    private int tests;
    private long traced;
    private int dryWeight;

    public BurstSkins() {
        moment.begin(recipe.water);
    }

    // ---- the sausage

    public int type(long v, int n) {
        if (outside(n, 1, 8)) {
            return BAD;
        }
        if (reader.length + n > MOST_TEXT) {
            return FULL;
        }
        for (int i = n - 1; i >= 0; i--) {
            reader.append((int) (v >>> (8 * i)) & 255);
        }
        return reader.length;
    }

    public int clear() {
        int bytes = reader.length;
        reader.length = 0;
        return bytes;
    }

    public int sausage() {
        int items = reader.readAll(draft);
        if (items < 0) {
            return items;
        }
        recipe.take(draft);
        reader.length = 0;
        moment.begin(recipe.water);
        for (int i = 0; i < IMAGES; i++) {
            kept[i] = false;
        }
        return items;
    }

    public int told(int what) {
        switch (what) {
            case 0: return recipe.radius;
            case 1: return recipe.skin;
            case 2: return recipe.filling;
            case 3: return recipe.water;
            case 4: return recipe.ends;
            case 5: return recipe.thin;
            case 6: return recipe.chance;
            case 7: return recipe.bentFace;
            case 8: return recipe.bentBy;
            case 9: return recipe.doings;
            case 10: return recipe.planSeconds();
            default: return BAD;
        }
    }

    public int doing(int k, int what) {
        if (outside(k, 0, recipe.doings - 1)) {
            return BAD;
        }
        switch (what) {
            case 0: return recipe.kinds[k];
            case 1: return recipe.firsts[k];
            case 2: return recipe.seconds[k];
            default: return BAD;
        }
    }

    // ---- seconds

    public int fire(int h, int n) {
        if (outside(h, 0, 300) || outside(n, 1, 99)) {
            return BAD;
        }
        return passSeconds(FIRE, h, n);
    }

    public int simmer(int t, int n) {
        if (outside(t, 20, 100) || outside(n, 1, 99)) {
            return BAD;
        }
        return passSeconds(SIMMER, t, n);
    }

    public int turn(int k) {
        if (outside(k, 1, 3)) {
            return BAD;
        }
        moment.turnBy(k);
        return moment.down;
    }

    public int prick(int p) {
        if (outside(p, 1, 9)) {
            return BAD;
        }
        moment.prickBy(p);
        return moment.pricked;
    }

    public int spots(int set) {
        if (outside(set, 0, ALL_SPOTS)) {
            return BAD;
        }
        int was = moment.thinSpots;
        moment.thinSpots = set;
        return was;
    }

    public int face(int f, int what) {
        if (outside(f, 0, FACES - 1)) {
            return BAD;
        }
        switch (what) {
            case 0: return moment.degrees[f];
            case 1: return moment.brown[f];
            case 2: return moment.strengthAt(f, recipe);
            case 3: return Moment.pullRound(f, recipe, moment.pressIn(recipe));
            default: return BAD;
        }
    }

    public int now(int what) {
        switch (what) {
            case 0: return moment.down;
            case 1: return moment.core;
            case 2: return moment.water;
            case 3: return moment.pricked;
            case 4: return moment.seconds;
            case 5: return moment.gone;
            case 6: return moment.splitAt;
            case 7: return moment.pressIn(recipe);
            case 8: return Moment.pullAlong(recipe, moment.pressIn(recipe));
            case 9: return moment.steam;
            default: return BAD;
        }
    }

    public int anew() {
        int were = moment.seconds;
        moment.begin(recipe.water);
        return were;
    }

    // ---- plans

    public int run(int spots, int what) {
        if (outside(spots, 0, ALL_SPOTS) || outside(what, 0, 10)) {
            return BAD;
        }
        journey.setOut(recipe, spots);
        journey.follow(recipe, recipe.planSeconds(), false);
        switch (what) {
            case 0: return journey.when;
            case 1: return journey.at.gone;
            case 2: return journey.at.splitAt;
            case 3: return journey.at.leastBrown();
            case 4: return journey.at.greatestBrown();
            case 5: return journey.at.core;
            case 6: return journey.at.water;
            case 7: return journey.greatest;
            case 8: return journey.greatestAt;
            case 9: return journey.hiss;
            default: return journey.hissAhead();
        }
    }

    public int odds() {
        int sum = 0;
        for (int set = 0; set <= ALL_SPOTS; set++) {
            int weight = chanceOf(set);
            if (weight > 0) {
                journey.setOut(recipe, set);
                if (!staysWhole()) {
                    sum += weight;
                }
            }
        }
        return sum;
    }

    public int pricks(int what) {
        if (outside(what, 0, 1)) {
            return BAD;
        }
        for (int p = 0; p <= 9; p++) {
            journey.setOut(recipe, ALL_SPOTS);
            journey.at.prickBy(p);
            if (staysWhole()) {
                // THIN SPOTS change nothing of WATER: that of the set 0 is the same.
                return what == 0 ? p : journey.at.water;
            }
        }
        return NONE;
    }

    public int simmered(int what) {
        if (outside(what, 0, 1)) {
            return BAD;
        }
        for (int i = 0; i <= 40; i++) {
            int t = what == 0 ? 60 + i : 100 - i;
            journey.setOut(recipe, ALL_SPOTS);
            for (int s = 0; s < 60; s++) {
                journey.passNoting(recipe, SIMMER, t);
            }
            if (staysWhole()) {
                return t;
            }
        }
        return NONE;
    }

    public int planned(int n, int spots, int what) {
        if (outside(n, 8, 240) || outside(spots, 0, ALL_SPOTS) || outside(what, 0, 2)) {
            return BAD;
        }
        int most = NONE;
        int bestHeat = NONE;
        int bestEach = NONE;
        for (int h = 80; h <= 260; h += 20) {
            for (int each = 5; each <= 40; each += 5) {
                journey.setOut(recipe, spots);
                journey.turnEach(recipe, n, h, each);
                int least = journey.at.gone == 0 ? journey.at.leastBrown() : NONE;
                if (least > most) {
                    most = least;
                    bestHeat = h;
                    bestEach = each;
                }
            }
        }
        return what == 0 ? most : what == 1 ? bestHeat : bestEach;
    }

    // ---- pans, causes

    public int heat(int cell, int v) {
        if (outside(cell, 0, FACES - 1) || outside(v, 0, MOST_HEAT)) {
            return BAD;
        }
        int was = heats[cell];
        heats[cell] = v;
        return was;
    }

    public int even(int rounds, int what) {
        if (outside(rounds, 1, 3) || outside(what, 0, 1)) {
            return BAD;
        }
        // Which of the four is which is all one, so the first of the best rows begins with order 0.
        int rows = rounds == 1 ? 1 : rounds == 2 ? ORDERS : ORDERS * ORDERS;
        int most = -1;
        int first = 0;
        for (int row = 0; row < rows; row++) {
            int least = leastHeat(row, rounds);
            if (least > most) {
                most = least;
                first = row;
            }
        }
        return what == 0 ? most : first;
    }

    public int began(int t, int f, int cause) {
        if (noBeginning(t, f, cause)) {
            return BAD;
        }
        return timesOf(cause, t, f);
    }

    public int why(int t, int f, int cause, int what) {
        if (noBeginning(t, f, cause) || outside(what, 0, 1)) {
            return BAD;
        }
        int sum = 0;
        int upper = 0;
        for (int c = 0; c < CAUSES; c++) {
            int times = timesOf(c, t, f);
            sum += times;
            if (c == cause) {
                upper = times;
            }
        }
        if (sum <= 0) {
            return STATE;
        }
        int common = Math.max(1, commonDivisor(upper, sum));
        return what == 0 ? upper / common : sum / common;
    }

    // ---- dry ones, tests, tubes

    public int dried(int w, int d, int air, int n) {
        if (noDrying(w, d, air) || outside(n, 0, 200)) {
            return BAD;
        }
        dryUntil(w, d, air, n, -1);
        return dryWeight;
    }

    public int days(int w, int d, int air, int x) {
        if (noDrying(w, d, air) || outside(x, 0, 9999)) {
            return BAD;
        }
        int day = dryUntil(w, d, air, 200, x);
        return dryWeight <= x ? day : NONE;
    }

    public int test(int salt, int crumbs) {
        if (outside(salt, 0, 30) || outside(crumbs, 0, 999)) {
            return BAD;
        }
        if (outside(tests, 0, MOST_TESTS - 1)) {
            return FULL;
        }
        salts[tests] = salt;
        crumbsOf[tests] = crumbs;
        tests++;
        return tests;
    }

    public int holds(int what) {
        if (outside(what, 0, 2)) {
            return BAD;
        }
        int least = NONE;
        int greatest = NONE;
        for (int i = 0; i < tests && i < MOST_TESTS; i++) {
            if (crumbsOf[i] <= 100) {
                least = least == NONE ? salts[i] : Math.min(least, salts[i]);
            } else {
                greatest = Math.max(greatest, salts[i]);
            }
        }
        if (what == 2) {
            return least == NONE || greatest == NONE || greatest < least ? 1 : 0;
        }
        return what == 0 ? least : greatest;
    }

    public int tube(int r, int g, int what) {
        if (outside(r, 1, 99) || outside(g, 1, 999) || outside(what, 0, 1)) {
            return BAD;
        }
        return what == 0 ? g / r : 2 * g / r;
    }

    // ---- kinds, images

    public int mark(int kind, int f) {
        if (outside(f, 0, FACES - 1)) {
            return NO;
        }
        switch (kind) {
            case 0: return markEnd(f);
            case 1: return markWhole(f);
            case 2: return markSplit(f);
            case 3: return markCurled(f);
            case 4: return markPale(f);
            case 5: return markDried(f);
            default: return NO;
        }
    }

    public int keep(int image) {
        if (outside(image, 0, IMAGES - 1)) {
            return BAD;
        }
        images[image].take(moment);
        kept[image] = true;
        return moment.seconds;
    }

    public int back(int image) {
        if (outside(image, 0, IMAGES - 1)) {
            return BAD;
        }
        if (!kept[image]) {
            return STATE;
        }
        moment.take(images[image]);
        return moment.seconds;
    }

    public int count(int what) {
        switch (what) {
            case 0: return recipe.doings;
            case 1: return tests;
            case 2: return reader.length;
            default: return BAD;
        }
    }

    public long trace() {
        return traced;
    }

    // ---- helpers of the above

    private static boolean outside(int v, int low, int high) {
        return v < low || v > high;
    }

    private int passSeconds(int kind, int degrees, int n) {
        for (int i = 0; i < n; i++) {
            moment.pass(recipe, kind, degrees);
        }
        return moment.gone;
    }

    /** Of 10 000: how often the faces with THIN SPOTS are just this set. */
    private int chanceOf(int set) {
        int product = 1;
        for (int f = 0; f < FACES; f++) {
            product *= (set >> f & 1) == 1 ? recipe.chance : 10 - recipe.chance;
        }
        return product;
    }

    /**
     * Whether the journey, as it has begun, stays whole by THE PLAN. A THIN SPOT more never makes
     * a face hold more: what stays whole with all of them does so with each of the 16 sets.
     */
    private boolean staysWhole() {
        journey.follow(recipe, journey.at.seconds + recipe.planSeconds(), true);
        return journey.at.gone == 0;
    }

    private int leastHeat(int row, int rounds) {
        int least = MOST_HEAT * rounds;
        for (int i = 0; i < FACES; i++) {
            int sum = 0;
            int rest = row;
            for (int r = 0; r < rounds; r++) {
                sum += heatAt(rest % ORDERS * FACES + i);
                rest /= ORDERS;
            }
            least = Math.min(least, sum);
        }
        return least;
    }

    /** The HEAT of the cell that stands at a place of CELLS_OF_ORDERS. */
    private int heatAt(int place) {
        if (outside(place, 0, CELLS_OF_ORDERS.length - 1)) {
            return 0;
        }
        int cell = CELLS_OF_ORDERS[place];
        return outside(cell, 0, FACES - 1) ? 0 : heats[cell];
    }

    private static boolean noBeginning(int t, int f, int cause) {
        return outside(t, 1, 999) || outside(f, 0, FACES - 1) || outside(cause, 0, CAUSES - 1);
    }

    /** In how many of nine it splits at the SECOND t at the face f by a CAUSE. */
    private int timesOf(int cause, int t, int f) {
        // v changes nothing of the CAUSES 0 and 1: one run tells all nine.
        int tries = cause == CAUSE_NONE || cause == CAUSE_THIN ? 1 : 9;
        int times = 0;
        for (int v = 1; v <= tries; v++) {
            changeBy(cause, v);
            journey.setOut(changed, cause == CAUSE_THIN ? 1 << f : 0);
            journey.follow(changed, t, true);
            if (journey.when == t && journey.at.gone == SPLIT && journey.at.splitAt == f) {
                times++;
            }
        }
        return tries == 1 ? times * 9 : times;
    }

    private void changeBy(int cause, int v) {
        changed.take(recipe);
        if (cause == CAUSE_FULL) {
            changed.filling = Math.min(99, changed.filling + 4 * v);
        } else if (cause == CAUSE_FIRES) {
            changed.heatFires(10 * v);
        } else if (cause == CAUSE_SKIN) {
            changed.skin = Math.max(1, changed.skin - 10 * v);
        }
    }

    private static int commonDivisor(int a, int b) {
        int greater = a;
        int lesser = b;
        for (int i = 0; i < 64 && lesser != 0; i++) {
            int rest = greater % lesser;
            greater = lesser;
            lesser = rest;
        }
        return greater;
    }

    private static boolean noDrying(int w, int d, int air) {
        return outside(w, 1, 9999) || outside(d, 0, w) || outside(air, 0, 9);
    }

    /** Dries up to a day, or to where the WEIGHT, left in dryWeight, is x or less: which day it is then. */
    private int dryUntil(int w, int d, int air, int most, int x) {
        int hard = 0;
        int day = 0;
        dryWeight = w;
        while (day < most && dryWeight > x) {
            int loss = (dryWeight - d) / Math.max(1, 10 + hard);
            dryWeight -= loss;
            if (loss > w / 50) {
                hard += air;
            }
            day++;
        }
        return day;
    }

    private int markEnd(int f) {
        traced += 1;
        return moment.degrees[f];
    }

    private int markWhole(int f) {
        traced += 10;
        return markEnd(f) + moment.brown[f];
    }

    private int markSplit(int f) {
        traced += 100;
        return markEnd(f) - moment.pressIn(recipe);
    }

    private int markCurled(int f) {
        traced += 1000;
        return markSplit(f) * 2;
    }

    private int markPale(int f) {
        traced += 10000;
        return markWhole(f) - moment.core;
    }

    private int markDried(int f) {
        traced += 100000;
        return markEnd(f) + moment.water;
    }

    /** What a text tells: the sausage and THE PLAN. */
    private static final class Recipe {
        static final int MOST_DOINGS = 12;
        static final int NO_BEND = 4;

        int radius;
        int skin;
        int filling;
        int water;
        int ends;
        int thin;
        int chance;
        int bentFace;
        int bentBy;
        int doings;
        final int[] kinds = new int[MOST_DOINGS];
        final int[] firsts = new int[MOST_DOINGS];
        final int[] seconds = new int[MOST_DOINGS];

        Recipe() {
            setAtFirst();
        }

        void setAtFirst() {
            radius = 3;
            skin = 200;
            filling = 10;
            water = 300;
            ends = 300;
            thin = 40;
            chance = 2;
            bentFace = NO_BEND;
            bentBy = 0;
            doings = 0;
        }

        void take(Recipe other) {
            radius = other.radius;
            skin = other.skin;
            filling = other.filling;
            water = other.water;
            ends = other.ends;
            thin = other.thin;
            chance = other.chance;
            bentFace = other.bentFace;
            bentBy = other.bentBy;
            doings = other.doings;
            for (int k = 0; k < MOST_DOINGS; k++) {
                kinds[k] = other.kinds[k];
                firsts[k] = other.firsts[k];
                seconds[k] = other.seconds[k];
            }
        }

        boolean isFull() {
            return doings >= MOST_DOINGS;
        }

        void add(int kind, int first, int second) {
            if (doings >= 0 && doings < MOST_DOINGS) {
                kinds[doings] = kind;
                firsts[doings] = first;
                seconds[doings] = second;
                doings++;
            }
        }

        int planSeconds() {
            int sum = 0;
            for (int k = 0; k < doings && k < MOST_DOINGS; k++) {
                sum += seconds[k];
            }
            return sum;
        }

        void heatFires(int more) {
            for (int k = 0; k < doings && k < MOST_DOINGS; k++) {
                if (kinds[k] == FIRE) {
                    firsts[k] = Math.min(300, firsts[k] + more);
                }
            }
        }
    }

    /** THE TEXT, and how it is read, TOKEN by TOKEN. */
    private static final class Reader {
        private static final int END = 0, SEMICOLON = 1, NUMBER = 2, WORD = 3, FAULTY = 4;
        private static final int WORDS = 6;
        private static final int SKIN_WORD = 0, BENT_WORD = 1, FIRE_WORD = 2;
        private static final int MOST_NUMBERS = 7;
        // What the numbers of each word may be; those of word w stand from FROM[w] to below FROM[w + 1].
        private static final int[] FROM = {0, 7, 9, 11, 12, 13, 15};
        private static final int[] LOW = {1, 1, 0, 0, 1, 0, 0, 0, 0, 0, 1, 1, 1, 20, 1};
        private static final int[] HIGH = {9, 999, 99, 999, 999, 999, 10, 3, 99, 300, 99, 3, 9, 100, 99};

        final int[] text = new int[MOST_TEXT];
        int length;
        private final int[] numbers = new int[MOST_NUMBERS];
        private int token;
        private int place;
        private int next;
        private int value;
        private boolean skinTold;
        private boolean bentTold;

        void append(int b) {
            if (length >= 0 && length < MOST_TEXT) {
                text[length] = b;
                length++;
            }
        }

        /** How many ITEMS there are; or -10 less FAULT. */
        int readAll(Recipe into) {
            into.setAtFirst();
            next = 0;
            skinTold = false;
            bentTold = false;
            for (int items = 0; items <= MOST_TEXT; items++) {
                readToken();
                if (token == END) {
                    return items;
                }
                if (!readItem(into)) {
                    break;
                }
            }
            return -10 - place;
        }

        /** Reads on from an ITEM's first TOKEN; where that fails, place is the FAULT. */
        private boolean readItem(Recipe into) {
            if (token != WORD || outside(value, 0, WORDS - 1) || !mayStand(value, into)) {
                return false;
            }
            int word = value;
            int from = FROM[word];
            int many = FROM[word + 1] - from;
            for (int i = 0; i < many && i < MOST_NUMBERS; i++) {
                readToken();
                if (token != NUMBER || !mayBe(from + i)) {
                    return false;
                }
                numbers[i] = value;
            }
            readToken();
            if (token != SEMICOLON) {
                return false;
            }
            tell(word, many, into);
            return true;
        }

        private boolean mayStand(int word, Recipe into) {
            if (word == SKIN_WORD) {
                return !skinTold;
            }
            if (word == BENT_WORD) {
                return !bentTold;
            }
            return !into.isFull();
        }

        /** Whether the number just read is what the number at a place of LOW and HIGH may be. */
        private boolean mayBe(int at) {
            return at >= 0 && at < LOW.length && at < HIGH.length && !outside(value, LOW[at], HIGH[at]);
        }

        private void tell(int word, int many, Recipe into) {
            if (word == SKIN_WORD) {
                skinTold = true;
                into.radius = numbers[0];
                into.skin = numbers[1];
                into.filling = numbers[2];
                into.water = numbers[3];
                into.ends = numbers[4];
                into.thin = numbers[5];
                into.chance = numbers[6];
            } else if (word == BENT_WORD) {
                bentTold = true;
                into.bentFace = numbers[0];
                into.bentBy = numbers[1];
            } else {
                into.add(word - FIRE_WORD, numbers[0], many > 1 ? numbers[1] : 0);
            }
        }

        private int byteAt(int i) {
            return i >= 0 && i < length && i < MOST_TEXT ? text[i] : -1;
        }

        private static boolean isLetter(int b) {
            return b >= 'a' && b <= 'z';
        }

        private static boolean isDigit(int b) {
            return b >= '0' && b <= '9';
        }

        private void readToken() {
            place = next;
            while (place < length && byteAt(place) == ' ') {
                place++;
            }
            int first = byteAt(place);
            next = place + 1;
            value = 0;
            if (first < 0) {
                token = END;
            } else if (first == ';') {
                token = SEMICOLON;
            } else if (isDigit(first)) {
                readNumber();
            } else if (isLetter(first)) {
                readWord();
            } else {
                token = FAULTY;
            }
        }

        private void readNumber() {
            next = place;
            while (next < length && isDigit(byteAt(next))) {
                // Held down, so that no row of digits can wrap around to a number that may be.
                value = Math.min(1000, value * 10 + byteAt(next) - '0');
                next++;
            }
            boolean zeroAhead = byteAt(place) == '0' && next > place + 1;
            token = zeroAhead || value > 999 ? FAULTY : NUMBER;
        }

        private void readWord() {
            next = place;
            while (next < length && isLetter(byteAt(next))) {
                next++;
            }
            token = FAULTY;
            for (int word = 0; word < WORDS; word++) {
                if (isWord(nameOf(word))) {
                    token = WORD;
                    value = word;
                }
            }
        }

        private static String nameOf(int word) {
            switch (word) {
                case 0: return "skin";
                case 1: return "bent";
                case 2: return "fire";
                case 3: return "turn";
                case 4: return "prick";
                default: return "simmer";
            }
        }

        private boolean isWord(String name) {
            if (name.length() != next - place) {
                return false;
            }
            for (int i = 0; i < name.length(); i++) {
                if (name.charAt(i) != byteAt(place + i)) {
                    return false;
                }
            }
            return true;
        }
    }

    /** NOW, or a moment of a RUN. */
    private static final class Moment {
        private static final int AT_FIRST = 20;

        int down;
        final int[] degrees = new int[FACES];
        final int[] brown = new int[FACES];
        int core;
        int water;
        int pricked;
        int thinSpots;
        int seconds;
        int gone;
        int splitAt;
        int steam;

        void begin(int waterTold) {
            down = 0;
            for (int f = 0; f < FACES; f++) {
                degrees[f] = AT_FIRST;
                brown[f] = 0;
            }
            core = AT_FIRST;
            water = waterTold;
            pricked = 0;
            thinSpots = 0;
            seconds = 0;
            gone = 0;
            splitAt = NONE;
            steam = 0;
        }

        void take(Moment other) {
            down = other.down;
            for (int f = 0; f < FACES; f++) {
                degrees[f] = other.degrees[f];
                brown[f] = other.brown[f];
            }
            core = other.core;
            water = other.water;
            pricked = other.pricked;
            thinSpots = other.thinSpots;
            seconds = other.seconds;
            gone = other.gone;
            splitAt = other.splitAt;
            steam = other.steam;
        }

        void turnBy(int quarters) {
            down = (down + quarters) & 3;
        }

        void prickBy(int times) {
            pricked = Math.min(MOST_PRICKS, pricked + times);
        }

        /** A SECOND; answers its PRESS, that by which it goes too. */
        int pass(Recipe recipe, int kind, int heat) {
            if (kind == FIRE) {
                fireFaces(heat);
            } else {
                simmerFaces(heat);
            }
            warmCore(recipe);
            boil();
            browner();
            seconds++;
            int press = pressIn(recipe);
            if (gone == 0) {
                goIfPulled(recipe, press);
            }
            return press;
        }

        private void fireFaces(int heat) {
            for (int f = 0; f < FACES; f++) {
                if (f == down) {
                    degrees[f] += (heat - degrees[f]) / 4;
                } else {
                    degrees[f] -= (degrees[f] - 20) / 16;
                }
            }
        }

        private void simmerFaces(int heat) {
            for (int f = 0; f < FACES; f++) {
                degrees[f] += (heat - degrees[f]) / 4;
            }
        }

        private void warmCore(Recipe recipe) {
            int sum = 0;
            for (int f = 0; f < FACES; f++) {
                sum += degrees[f];
            }
            core += (sum - 4 * core) / Math.max(1, 8 * recipe.radius);
        }

        private void boil() {
            int hot = core;
            for (int f = 0; f < FACES; f++) {
                hot = Math.max(hot, degrees[f]);
            }
            steam = water > 0 ? Math.max(0, hot - 100) : 0;
            int loss = steam / 20 + (core > 60 ? pricked / 3 : 0);
            water = Math.max(0, water - loss);
        }

        private void browner() {
            for (int f = 0; f < FACES; f++) {
                int more = Math.max(0, (degrees[f] - 120) / 10);
                brown[f] = Math.min(999, brown[f] + more);
            }
        }

        private void goIfPulled(Recipe recipe, int press) {
            for (int f = 0; f < FACES; f++) {
                if (pullRound(f, recipe, press) > strengthAt(f, recipe)) {
                    gone = SPLIT;
                    splitAt = f;
                    return;
                }
            }
            if (pullAlong(recipe, press) > recipe.ends) {
                gone = POPPED;
            }
        }

        int pressIn(Recipe recipe) {
            if (gone != 0) {
                return 0;
            }
            int warm = Math.max(0, (core - 40) / 4);
            return Math.max(0, recipe.filling + warm + steam / 2 - 5 * pricked);
        }

        static int pullRound(int f, Recipe recipe, int press) {
            int bend = f == recipe.bentFace ? recipe.bentBy : 0;
            return press * recipe.radius + bend;
        }

        static int pullAlong(Recipe recipe, int press) {
            return press * recipe.radius / 2;
        }

        int strengthAt(int f, Recipe recipe) {
            int burnt = f >= 0 && f < FACES ? Math.max(0, (degrees[f] - 150) / 2) : 0;
            int thin = (thinSpots >> f & 1) == 1 ? recipe.thin : 0;
            return Math.max(1, recipe.skin - burnt - thin);
        }

        int leastBrown() {
            return Math.min(Math.min(brown[0], brown[1]), Math.min(brown[2], brown[3]));
        }

        int greatestBrown() {
            return Math.max(Math.max(brown[0], brown[1]), Math.max(brown[2], brown[3]));
        }
    }

    /** A RUN, and what is noted on its way. */
    private static final class Journey {
        final Moment at = new Moment();
        int when;
        int greatest;
        int greatestAt;
        int hiss;

        void setOut(Recipe recipe, int spots) {
            at.begin(recipe.water);
            at.thinSpots = spots;
            when = NONE;
            greatest = 0;
            greatestAt = NONE;
            hiss = NONE;
        }

        void passNoting(Recipe recipe, int kind, int heat) {
            int press = at.pass(recipe, kind, heat);
            if (greatestAt == NONE || press > greatest) {
                greatest = press;
                greatestAt = at.seconds;
            }
            if (hiss == NONE && at.steam > 0) {
                hiss = at.seconds;
            }
            if (when == NONE && at.gone != 0) {
                when = at.seconds;
            }
        }

        /** Goes by THE PLAN up to the SECOND last, or to where it is whole no more, if that is enough. */
        void follow(Recipe recipe, int last, boolean untilGone) {
            for (int k = 0; k < recipe.doings && k < Recipe.MOST_DOINGS; k++) {
                int kind = recipe.kinds[k];
                int first = recipe.firsts[k];
                if (kind == TURN) {
                    at.turnBy(first);
                } else if (kind == PRICK) {
                    at.prickBy(first);
                }
                for (int i = 0; i < recipe.seconds[k] && at.seconds < last; i++) {
                    if (untilGone && at.gone != 0) {
                        return;
                    }
                    passNoting(recipe, kind, first);
                }
            }
        }

        /** n SECONDS of a FIRE, turned by a quarter behind each so many, till they end or it goes. */
        void turnEach(Recipe recipe, int n, int heat, int each) {
            int since = 0;
            for (int i = 0; i < n && at.gone == 0; i++) {
                if (since == each) {
                    at.turnBy(1);
                    since = 0;
                }
                passNoting(recipe, FIRE, heat);
                since++;
            }
        }

        int hissAhead() {
            return when == NONE || hiss == NONE || hiss > when ? NONE : when - hiss;
        }
    }
}
