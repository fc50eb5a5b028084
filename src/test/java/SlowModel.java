import java.util.ArrayList;
import java.util.Arrays;
import java.util.Collections;
import java.util.HashMap;
import java.util.List;
import java.util.Map;
import java.util.regex.Matcher;
import java.util.regex.Pattern;

/**
 * The document once more, written apart from the program and with none of its short cuts: every set of
 * THIN SPOTS is run, every row of rounds is looked at, every run goes to its end.
 */
final class SlowModel {
    private static final int BAD = -1, STATE = -2, FULL = -3, NONE = -9, NO = -1000000;

    /** One DOING: what it is, and its numbers. */
    record Doing(String what, int first, int second) {
        boolean passes() {
            return what.equals("fire") || what.equals("simmer");
        }
    }

    /** The sausage and THE PLAN. */
    record Told(int radius, int skin, int full, int water, int ends, int thin, int chance,
            int bentFace, int bentBy, List<Doing> plan) {
        int planSeconds() {
            return plan.stream().filter(Doing::passes).mapToInt(Doing::second).sum();
        }
    }

    static final Told AT_FIRST = new Told(3, 200, 10, 300, 300, 40, 2, 4, 0, List.of());

    /** NOW. */
    static final class Now {
        int down = 0, core = 20, water, pricks = 0, seconds = 0, state = 0, splitAt = NONE, steam = 0;
        int pressBefore = 0;
        boolean[] thin = new boolean[4];
        int[] degrees = {20, 20, 20, 20};
        int[] brown = {0, 0, 0, 0};

        Now(int water) {
            this.water = water;
        }

        Now copy() {
            Now c = new Now(water);
            c.down = down;
            c.core = core;
            c.pricks = pricks;
            c.seconds = seconds;
            c.state = state;
            c.splitAt = splitAt;
            c.steam = steam;
            c.thin = thin.clone();
            c.degrees = degrees.clone();
            c.brown = brown.clone();
            return c;
        }

        void setThin(int set) {
            for (int f = 0; f < 4; f++) {
                thin[f] = (set & (1 << f)) != 0;
            }
        }

        int thinSet() {
            int set = 0;
            for (int f = 3; f >= 0; f--) {
                set = 2 * set + (thin[f] ? 1 : 0);
            }
            return set;
        }

        int press(Told t) {
            if (state != 0) {
                return 0;
            }
            int p = t.full();
            if (core > 40) {
                p += (core - 40) / 4;
            }
            p += steam / 2;
            p -= 5 * pricks;
            return p < 0 ? 0 : p;
        }

        int round(Told t, int f) {
            return press(t) * t.radius() + (t.bentFace() == f ? t.bentBy() : 0);
        }

        int along(Told t) {
            return (press(t) * t.radius()) / 2;
        }

        int holds(Told t, int f) {
            int h = t.skin();
            if (degrees[f] > 150) {
                h -= (degrees[f] - 150) / 2;
            }
            if (thin[f]) {
                h -= t.thin();
            }
            return h < 1 ? 1 : h;
        }

        void second(Told t, boolean fire, int heat) {
            int sum = 0;
            int hot = 0;
            for (int f = 0; f < 4; f++) {
                int was = degrees[f];
                degrees[f] = !fire || f == down ? was + (heat - was) / 4 : was - (was - 20) / 16;
                sum += degrees[f];
                hot = Math.max(hot, degrees[f]);
            }
            core = core + (sum - 4 * core) / (8 * t.radius());
            hot = Math.max(hot, core);
            steam = 0;
            if (water > 0 && hot > 100) {
                steam = hot - 100;
            }
            water -= steam / 20;
            if (core > 60) {
                water -= pricks / 3;
            }
            if (water < 0) {
                water = 0;
            }
            for (int f = 0; f < 4; f++) {
                if (degrees[f] > 120) {
                    brown[f] = Math.min(999, brown[f] + (degrees[f] - 120) / 10);
                }
            }
            seconds++;
            pressBefore = press(t);
            go(t);
        }

        private void go(Told t) {
            if (state != 0) {
                return;
            }
            for (int f = 0; f < 4; f++) {
                if (round(t, f) > holds(t, f)) {
                    state = 1;
                    splitAt = f;
                    return;
                }
            }
            if (along(t) > t.ends()) {
                state = 2;
            }
        }

        void prick(int p) {
            pricks = Math.min(99, pricks + p);
        }
    }

    /** A whole RUN with what came before THE PLAN. */
    static final class Run {
        final Now now;
        int when = NONE, greatest = 0, greatestAt = NONE, hiss = NONE;

        Run(Told t, int set, int pricks, int simmer) {
            now = new Now(t.water());
            now.setThin(set);
            now.prick(pricks);
            for (int s = 0; simmer > 0 && s < 60; s++) {
                second(t, false, simmer);
            }
            for (Doing d : t.plan()) {
                switch (d.what()) {
                    case "turn" -> now.down = (now.down + d.first()) % 4;
                    case "prick" -> now.prick(d.first());
                    default -> {
                        for (int s = 0; s < d.second(); s++) {
                            second(t, d.what().equals("fire"), d.first());
                        }
                    }
                }
            }
        }

        private void second(Told t, boolean fire, int heat) {
            boolean whole = now.state == 0;
            now.second(t, fire, heat);
            if (whole && now.state != 0) {
                when = now.seconds;
            }
            if (now.seconds == 1 || now.pressBefore > greatest) {
                greatest = now.pressBefore;
                greatestAt = now.seconds;
            }
            if (now.steam > 0 && hiss == NONE) {
                hiss = now.seconds;
            }
        }
    }

    private final List<Integer> text = new ArrayList<>();
    private Told told = AT_FIRST;
    private Now now = new Now(told.water());
    private final Map<Integer, Now> images = new HashMap<>();
    private final int[] heats = {40, 90, 90, 40};
    private final List<int[]> tests = new ArrayList<>();
    private long trace = 0;

    int type(long v, int n) {
        if (n < 1 || n > 8) {
            return BAD;
        }
        if (text.size() + n > 300) {
            return FULL;
        }
        byte[] bytes = java.nio.ByteBuffer.allocate(8).putLong(v).array();
        for (int i = 8 - n; i < 8; i++) {
            text.add(bytes[i] & 255);
        }
        return text.size();
    }

    int clear() {
        int n = text.size();
        text.clear();
        return n;
    }

    private static final Pattern TOKEN = Pattern.compile(" *([a-z]+|[0-9]+|;|[^ ])", Pattern.DOTALL);

    int sausage() {
        StringBuilder all = new StringBuilder();
        for (int b : text) {
            all.append((char) b);
        }
        List<String> tokens = new ArrayList<>();
        List<Integer> places = new ArrayList<>();
        Matcher m = TOKEN.matcher(all);
        while (m.find()) {
            tokens.add(m.group(1));
            places.add(m.start(1));
        }
        places.add(all.length());
        int[] skin = null;
        int[] bent = null;
        List<Doing> plan = new ArrayList<>();
        int items = 0;
        int i = 0;
        while (i < tokens.size()) {
            String word = tokens.get(i);
            int[][] limits = switch (word) {
                case "skin" -> new int[][] {{1, 9}, {1, 999}, {0, 99}, {0, 999}, {1, 999}, {0, 999}, {0, 10}};
                case "bent" -> new int[][] {{0, 3}, {0, 99}};
                case "fire" -> new int[][] {{0, 300}, {1, 99}};
                case "turn" -> new int[][] {{1, 3}};
                case "prick" -> new int[][] {{1, 9}};
                case "simmer" -> new int[][] {{20, 100}, {1, 99}};
                default -> null;
            };
            boolean isDoing = !word.equals("skin") && !word.equals("bent");
            if (limits == null || word.equals("skin") && skin != null || word.equals("bent") && bent != null
                    || isDoing && plan.size() == 12) {
                return -10 - places.get(i);
            }
            i++;
            int[] numbers = new int[limits.length];
            for (int k = 0; k < limits.length; k++, i++) {
                if (i >= tokens.size() || !tokens.get(i).matches("0|[1-9][0-9]{0,2}")) {
                    return -10 - places.get(i);
                }
                numbers[k] = Integer.parseInt(tokens.get(i));
                if (numbers[k] < limits[k][0] || numbers[k] > limits[k][1]) {
                    return -10 - places.get(i);
                }
            }
            if (i >= tokens.size() || !tokens.get(i).equals(";")) {
                return -10 - places.get(i);
            }
            i++;
            items++;
            if (word.equals("skin")) {
                skin = numbers;
            } else if (word.equals("bent")) {
                bent = numbers;
            } else {
                plan.add(new Doing(word, numbers[0], numbers.length > 1 ? numbers[1] : 0));
            }
        }
        int[] s = skin != null ? skin : new int[] {3, 200, 10, 300, 300, 40, 2};
        int[] b = bent != null ? bent : new int[] {4, 0};
        told = new Told(s[0], s[1], s[2], s[3], s[4], s[5], s[6], b[0], b[1], plan);
        text.clear();
        now = new Now(told.water());
        images.clear();
        return items;
    }

    int told(int what) {
        int[] all = {told.radius(), told.skin(), told.full(), told.water(), told.ends(), told.thin(), told.chance(),
            told.bentFace(), told.bentBy(), told.plan().size(), told.planSeconds()};
        return what < 0 || what > 10 ? BAD : all[what];
    }

    int doing(int k, int what) {
        if (k < 0 || k >= told.plan().size() || what < 0 || what > 2) {
            return BAD;
        }
        Doing d = told.plan().get(k);
        return new int[] {List.of("fire", "turn", "prick", "simmer").indexOf(d.what()), d.first(), d.second()}[what];
    }

    int fire(int h, int n) {
        if (h < 0 || h > 300 || n < 1 || n > 99) {
            return BAD;
        }
        for (int s = 0; s < n; s++) {
            now.second(told, true, h);
        }
        return now.state;
    }

    int simmer(int t, int n) {
        if (t < 20 || t > 100 || n < 1 || n > 99) {
            return BAD;
        }
        for (int s = 0; s < n; s++) {
            now.second(told, false, t);
        }
        return now.state;
    }

    int turn(int k) {
        if (k < 1 || k > 3) {
            return BAD;
        }
        now.down = (now.down + k) % 4;
        return now.down;
    }

    int prick(int p) {
        if (p < 1 || p > 9) {
            return BAD;
        }
        now.prick(p);
        return now.pricks;
    }

    int spots(int set) {
        if (set < 0 || set > 15) {
            return BAD;
        }
        int was = now.thinSet();
        now.setThin(set);
        return was;
    }

    int face(int f, int what) {
        if (f < 0 || f > 3 || what < 0 || what > 3) {
            return BAD;
        }
        return new int[] {now.degrees[f], now.brown[f], now.holds(told, f), now.round(told, f)}[what];
    }

    int now(int what) {
        if (what < 0 || what > 9) {
            return BAD;
        }
        return new int[] {now.down, now.core, now.water, now.pricks, now.seconds, now.state, now.splitAt,
            now.press(told), now.along(told), now.steam}[what];
    }

    int anew() {
        int were = now.seconds;
        now = new Now(told.water());
        return were;
    }

    int run(int spots, int what) {
        if (spots < 0 || spots > 15 || what < 0 || what > 10) {
            return BAD;
        }
        Run r = new Run(told, spots, 0, 0);
        int[] brown = r.now.brown.clone();
        Arrays.sort(brown);
        int ahead = r.when != NONE && r.hiss != NONE && r.hiss <= r.when ? r.when - r.hiss : NONE;
        return new int[] {r.when, r.now.state, r.now.splitAt, brown[0], brown[3], r.now.core, r.now.water,
            r.greatest, r.greatestAt, r.hiss, ahead}[what];
    }

    int odds() {
        int sum = 0;
        for (int set = 0; set < 16; set++) {
            int c = Integer.bitCount(set);
            int weight = (int) (Math.round(Math.pow(told.chance(), c)) * Math.round(Math.pow(10 - told.chance(), 4 - c)));
            if (new Run(told, set, 0, 0).now.state != 0) {
                sum += weight;
            }
        }
        return sum;
    }

    private boolean goesInNone(int pricks, int simmer) {
        for (int set = 0; set < 16; set++) {
            if (new Run(told, set, pricks, simmer).when != NONE) {
                return false;
            }
        }
        return true;
    }

    int pricks(int what) {
        if (what < 0 || what > 1) {
            return BAD;
        }
        for (int p = 0; p < 10; p++) {
            if (goesInNone(p, 0)) {
                return what == 0 ? p : new Run(told, 0, p, 0).now.water;
            }
        }
        return NONE;
    }

    int simmered(int what) {
        if (what < 0 || what > 1) {
            return BAD;
        }
        List<Integer> fit = new ArrayList<>();
        for (int t = 60; t <= 100; t++) {
            if (goesInNone(0, t)) {
                fit.add(t);
            }
        }
        return fit.isEmpty() ? NONE : what == 0 ? Collections.min(fit) : Collections.max(fit);
    }

    int planned(int n, int spots, int what) {
        if (n < 8 || n > 240 || spots < 0 || spots > 15 || what < 0 || what > 2) {
            return BAD;
        }
        int[] best = {NONE, NONE, NONE};
        for (int each = 40; each >= 5; each -= 5) {
            for (int h = 260; h >= 80; h -= 20) {
                Now x = new Now(told.water());
                x.setThin(spots);
                for (int s = 1; s <= n; s++) {
                    x.second(told, true, h);
                    if (s % each == 0 && s < n) {
                        x.down = (x.down + 1) % 4;
                    }
                }
                int least = Arrays.stream(x.brown).min().getAsInt();
                boolean better = least > best[0] || least == best[0] && (h < best[1] || h == best[1] && each < best[2]);
                if (x.state == 0 && better) {
                    best = new int[] {least, h, each};
                }
            }
        }
        return best[what];
    }

    int heat(int cell, int v) {
        if (cell < 0 || cell > 3 || v < 0 || v > 99) {
            return BAD;
        }
        int was = heats[cell];
        heats[cell] = v;
        return was;
    }

    private static List<int[]> orders() {
        List<int[]> all = new ArrayList<>();
        for (int n = 0; n < 256; n++) {
            int[] o = {n / 64, n / 16 % 4, n / 4 % 4, n % 4};
            if (Arrays.stream(o).distinct().count() == 4) {
                all.add(o);
            }
        }
        return all;
    }

    int even(int rounds, int what) {
        if (rounds < 1 || rounds > 3 || what < 0 || what > 1) {
            return BAD;
        }
        List<int[]> orders = orders();
        int rows = (int) Math.round(Math.pow(24, rounds));
        int most = -1;
        int first = -1;
        for (int row = 0; row < rows; row++) {
            int[] has = new int[4];
            for (int rest = row, r = 0; r < rounds; r++, rest /= 24) {
                for (int i = 0; i < 4; i++) {
                    has[i] += heats[orders.get(rest % 24)[i]];
                }
            }
            int least = Arrays.stream(has).min().getAsInt();
            if (least > most) {
                most = least;
                first = row;
            }
        }
        return what == 0 ? most : first;
    }

    private int ofNine(int t, int f, int cause) {
        int n = 0;
        for (int v = 1; v <= 9; v++) {
            Told c = told;
            int skin = cause == 4 ? Math.max(1, c.skin() - 10 * v) : c.skin();
            int full = cause == 2 ? Math.min(99, c.full() + 4 * v) : c.full();
            List<Doing> plan = new ArrayList<>();
            for (Doing d : c.plan()) {
                boolean hotter = cause == 3 && d.what().equals("fire");
                plan.add(hotter ? new Doing("fire", Math.min(300, d.first() + 10 * v), d.second()) : d);
            }
            Told other = new Told(c.radius(), skin, full, c.water(), c.ends(), c.thin(), c.chance(),
                c.bentFace(), c.bentBy(), plan);
            Run r = new Run(other, cause == 1 ? 1 << f : 0, 0, 0);
            n += r.when == t && r.now.state == 1 && r.now.splitAt == f ? 1 : 0;
        }
        return n;
    }

    int began(int t, int f, int cause) {
        return t < 1 || t > 999 || f < 0 || f > 3 || cause < 0 || cause > 4 ? BAD : ofNine(t, f, cause);
    }

    int why(int t, int f, int cause, int what) {
        if (began(t, f, cause) == BAD || what < 0 || what > 1) {
            return BAD;
        }
        int sum = 0;
        for (int c = 0; c <= 4; c++) {
            sum += ofNine(t, f, c);
        }
        if (sum == 0) {
            return STATE;
        }
        int upper = ofNine(t, f, cause);
        int common = java.math.BigInteger.valueOf(upper).gcd(java.math.BigInteger.valueOf(sum)).intValue();
        return (what == 0 ? upper : sum) / common;
    }

    private static List<Integer> weights(int w, int d, int air) {
        List<Integer> all = new ArrayList<>(List.of(w));
        int hard = 0;
        for (int day = 1; day <= 200; day++) {
            int last = all.get(day - 1);
            int loss = (last - d) / (10 + hard);
            all.add(last - loss);
            if (loss * 50 > w) {
                hard += air;
            }
        }
        return all;
    }

    int dried(int w, int d, int air, int n) {
        if (w < 1 || w > 9999 || d < 0 || d > w || air < 0 || air > 9 || n < 0 || n > 200) {
            return BAD;
        }
        return weights(w, d, air).get(n);
    }

    int days(int w, int d, int air, int x) {
        if (dried(w, d, air, 0) == BAD || x < 0 || x > 9999) {
            return BAD;
        }
        List<Integer> all = weights(w, d, air);
        for (int day = 0; day <= 200; day++) {
            if (all.get(day) <= x) {
                return day;
            }
        }
        return NONE;
    }

    int test(int salt, int crumbs) {
        if (salt < 0 || salt > 30 || crumbs < 0 || crumbs > 999) {
            return BAD;
        }
        if (tests.size() == 20) {
            return FULL;
        }
        tests.add(new int[] {salt, crumbs});
        return tests.size();
    }

    int holds(int what) {
        int least = tests.stream().filter(t -> t[1] <= 100).mapToInt(t -> t[0]).min().orElse(NONE);
        int greatest = tests.stream().filter(t -> t[1] > 100).mapToInt(t -> t[0]).max().orElse(NONE);
        boolean agree = least == NONE || greatest == NONE || greatest < least;
        return what == 0 ? least : what == 1 ? greatest : what == 2 ? (agree ? 1 : 0) : BAD;
    }

    int tube(int r, int g, int what) {
        if (r < 1 || r > 99 || g < 1 || g > 999 || what < 0 || what > 1) {
            return BAD;
        }
        int p = 0;
        while ((p + 1) * r <= (what == 0 ? g : 2 * g)) {
            p++;
        }
        return p;
    }

    int mark(int kind, int f) {
        if (kind < 0 || kind > 5 || f < 0 || f > 3) {
            return NO;
        }
        int[] above = {-1, 0, 0, 2, 1, 0};
        int[] comes = {1, 10, 100, 1000, 10000, 100000};
        trace += comes[kind];
        int up = kind == 0 ? now.degrees[f] : mark(above[kind], f);
        return switch (kind) {
            case 1 -> up + now.brown[f];
            case 2 -> up - now.press(told);
            case 3 -> up * 2;
            case 4 -> up - now.core;
            case 5 -> up + now.water;
            default -> up;
        };
    }

    int keep(int image) {
        if (image != 0 && image != 1) {
            return BAD;
        }
        images.put(image, now.copy());
        return now.seconds;
    }

    int back(int image) {
        if (image != 0 && image != 1) {
            return BAD;
        }
        if (!images.containsKey(image)) {
            return STATE;
        }
        now = images.get(image).copy();
        return now.seconds;
    }

    int count(int what) {
        return what == 0 ? told.plan().size() : what == 1 ? tests.size() : what == 2 ? text.size() : BAD;
    }

    long trace() {
        return trace;
    }
}
