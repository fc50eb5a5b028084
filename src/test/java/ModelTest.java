import java.util.Random;

/** Many objects, each asked by random calls, against the slow model. The seeds are told: it is always the same. */
public final class ModelTest {
    private static final int OBJECTS = 1600;
    // What an object answers from its 513th call on is free: none is begun that could come so far.
    private static final int ENOUGH_CALLS = 400;

    private final Check check = new Check("ModelTest");
    private Random random = new Random(0);
    private BurstSkins x = new BurstSkins();
    private SlowModel model = new SlowModel();
    private int calls;

    public static void main(String[] args) {
        ModelTest t = new ModelTest();
        for (int seed = 0; seed < OBJECTS && t.check.wrong() < 20; seed++) {
            t.runOne(seed);
        }
        t.check.end();
    }

    private void runOne(int seed) {
        random = new Random(seed);
        x = new BurstSkins();
        model = new SlowModel();
        calls = 0;
        while (calls < ENOUGH_CALLS && check.wrong() < 20) {
            if (calls == 0 || random.nextInt(24) == 0) {
                readText(seed);
            } else {
                call(seed, random.nextInt(64));
            }
        }
    }

    private void readText(int seed) {
        String text = randomText();
        due(seed, "clear()", x.clear(), model.clear());
        for (int from = 0; from < text.length(); from += 8) {
            int n = Math.min(8, text.length() - from);
            long v = random.nextLong();
            for (int i = 0; i < n; i++) {
                v = v << 8 | text.charAt(from + i);
            }
            due(seed, "type(" + v + ", " + n + ")", x.type(v, n), model.type(v, n));
        }
        due(seed, "sausage() of '" + text + "'", x.sausage(), model.sausage());
        due(seed, "count(2)", x.count(2), model.count(2));
        for (int what = 0; what <= 10; what++) {
            due(seed, "told(" + what + ")", x.told(what), model.told(what));
        }
        for (int k = 0; k < model.count(0); k++) {
            for (int what = 0; what <= 2; what++) {
                due(seed, "doing(" + k + ", " + what + ")", x.doing(k, what), model.doing(k, what));
            }
        }
    }

    private String randomText() {
        StringBuilder s = new StringBuilder();
        int items = random.nextInt(random.nextInt(4) == 0 ? 17 : 9);
        if (random.nextInt(8) != 0) {
            s.append(sausageItem());
        }
        for (int i = 0; i < items; i++) {
            s.append(item());
            if (random.nextInt(5) == 0) {
                s.append("  ");
            }
        }
        if (random.nextInt(4) == 0 && s.length() > 0) {
            spoil(s);
        }
        if (s.length() > 300) {
            s.setLength(300);
        }
        return s.toString();
    }

    private String sausageItem() {
        int chance = random.nextInt(11);
        int radius = 1 + random.nextInt(9);
        int skin = 1 + random.nextInt(random.nextBoolean() ? 999 : 300);
        int ends = 1 + random.nextInt(random.nextBoolean() ? 999 : 200);
        int water = random.nextInt(random.nextBoolean() ? 999 : 60);
        return "skin " + radius + " " + skin + " " + random.nextInt(random.nextBoolean() ? 100 : 20) + " " + water + " "
            + ends + " " + random.nextInt(200) + " " + chance + ";";
    }

    private String item() {
        switch (random.nextInt(12)) {
            case 0: return "bent " + random.nextInt(4) + " " + random.nextInt(100) + ";";
            case 1: return random.nextInt(8) == 0 ? sausageItem() : "turn 1;";
            case 2:
            case 3: return "turn " + (1 + random.nextInt(3)) + ";";
            case 4: return "prick " + (1 + random.nextInt(9)) + ";";
            case 5:
            case 6: return "simmer " + (20 + random.nextInt(81)) + " " + (1 + random.nextInt(99)) + ";";
            default: return "fire " + random.nextInt(301) + " " + (1 + random.nextInt(60)) + ";";
        }
    }

    /** Makes a text that is most likely none: one sign taken away, put in or changed, or a piece cut off. */
    private void spoil(StringBuilder s) {
        String signs = " ;0123456789abcefiklmnprstu" + (char) 0 + (char) 9 + "A_" + (char) 200 + (char) 255;
        char sign = signs.charAt(random.nextInt(signs.length()));
        int at = random.nextInt(s.length());
        switch (random.nextInt(4)) {
            case 0 -> s.deleteCharAt(at);
            case 1 -> s.insert(at, sign);
            case 2 -> s.setCharAt(at, sign);
            default -> s.setLength(at);
        }
    }

    /** Mostly from low to high, at times a little beyond, seldom far beyond. */
    private int from(int low, int high) {
        switch (random.nextInt(40)) {
            case 0: return low - 1;
            case 1: return high + 1;
            case 2: return low;
            case 3: return high;
            case 4: return random.nextInt(4) == 0 ? random.nextInt() : low;
            default: return low + random.nextInt(high - low + 1);
        }
    }

    private void due(int seed, String call, long got, long want) {
        calls++;
        check.due("object " + seed + ", " + call, got, want);
    }

    private void call(int seed, int which) {
        if (which < 34) {
            callNow(seed, which);
        } else {
            callElse(seed, which);
        }
    }

    private void callNow(int seed, int which) {
        if (which < 5) {
            int h = from(0, 300), n = from(1, random.nextBoolean() ? 9 : 99);
            due(seed, "fire(" + h + ", " + n + ")", x.fire(h, n), model.fire(h, n));
        } else if (which < 7) {
            int t = from(20, 100), n = from(1, 99);
            due(seed, "simmer(" + t + ", " + n + ")", x.simmer(t, n), model.simmer(t, n));
        } else if (which < 10) {
            int k = from(1, 3);
            due(seed, "turn(" + k + ")", x.turn(k), model.turn(k));
        } else if (which < 11) {
            int p = from(1, 9);
            due(seed, "prick(" + p + ")", x.prick(p), model.prick(p));
        } else if (which < 13) {
            int set = from(0, 15);
            due(seed, "spots(" + set + ")", x.spots(set), model.spots(set));
        } else if (which < 20) {
            int f = from(0, 3), what = from(0, 3);
            due(seed, "face(" + f + ", " + what + ")", x.face(f, what), model.face(f, what));
        } else if (which < 27) {
            int what = from(0, 9);
            due(seed, "now(" + what + ")", x.now(what), model.now(what));
        } else if (which < 28) {
            due(seed, "anew()", x.anew(), model.anew());
        } else if (which < 30) {
            int image = from(0, 1);
            due(seed, "keep(" + image + ")", x.keep(image), model.keep(image));
        } else if (which < 32) {
            int image = from(0, 1);
            due(seed, "back(" + image + ")", x.back(image), model.back(image));
        } else {
            int kind = from(0, 5), f = from(0, 3);
            due(seed, "mark(" + kind + ", " + f + ")", x.mark(kind, f), model.mark(kind, f));
            due(seed, "trace()", x.trace(), model.trace());
        }
    }

    private void callElse(int seed, int which) {
        switch (which) {
            case 34, 35, 36, 37, 38, 39 -> {
                int spots = from(0, 15), what = from(0, 10);
                due(seed, "run(" + spots + ", " + what + ")", x.run(spots, what), model.run(spots, what));
            }
            case 40 -> due(seed, "odds()", x.odds(), model.odds());
            case 41, 42 -> {
                int what = from(0, 1);
                due(seed, "pricks(" + what + ")", x.pricks(what), model.pricks(what));
            }
            case 43 -> {
                int what = from(0, 1);
                due(seed, "simmered(" + what + ")", x.simmered(what), model.simmered(what));
            }
            case 44 -> {
                int n = from(8, 240), spots = from(0, 15), what = from(0, 2);
                due(seed, "planned(" + n + ", " + spots + ", " + what + ")", x.planned(n, spots, what),
                    model.planned(n, spots, what));
            }
            case 45, 46 -> {
                int cell = from(0, 3), v = from(0, 99);
                due(seed, "heat(" + cell + ", " + v + ")", x.heat(cell, v), model.heat(cell, v));
            }
            case 47 -> {
                int rounds = from(1, random.nextInt(8) == 0 ? 3 : 2), what = from(0, 1);
                due(seed, "even(" + rounds + ", " + what + ")", x.even(rounds, what), model.even(rounds, what));
            }
            case 48, 49, 50, 51 -> callBegan(seed);
            case 52, 53, 54, 55 -> callDried(seed);
            case 56, 57 -> {
                int salt = from(0, 30), crumbs = from(0, 999);
                due(seed, "test(" + salt + ", " + crumbs + ")", x.test(salt, crumbs), model.test(salt, crumbs));
            }
            case 58, 59 -> {
                int what = from(0, 2);
                due(seed, "holds(" + what + ")", x.holds(what), model.holds(what));
            }
            case 60, 61 -> {
                int r = from(1, 99), g = from(1, 999), what = from(0, 1);
                due(seed, "tube(" + r + ", " + g + ", " + what + ")", x.tube(r, g, what), model.tube(r, g, what));
            }
            case 62 -> {
                int what = from(0, 2);
                due(seed, "count(" + what + ")", x.count(what), model.count(what));
            }
            default -> {
                long v = random.nextLong();
                int n = from(1, 8);
                due(seed, "type(" + v + ", " + n + ")", x.type(v, n), model.type(v, n));
            }
        }
    }

    /** Asks for a second at which it did go, most often: others are in how many of nine 0. */
    private void callBegan(int seed) {
        int spots = random.nextInt(16);
        int when = x.run(spots, 0);
        int t = when > 0 && random.nextInt(5) > 0 ? when - random.nextInt(3) : from(1, 999);
        int where = x.run(spots, 2);
        calls += 2;
        int f = where >= 0 && random.nextInt(5) > 0 ? where : from(0, 3);
        int cause = from(0, 4), what = from(0, 1);
        due(seed, "began(" + t + ", " + f + ", " + cause + ")", x.began(t, f, cause), model.began(t, f, cause));
        due(seed, "why(" + t + ", " + f + ", " + cause + ", " + what + ")", x.why(t, f, cause, what),
            model.why(t, f, cause, what));
    }

    private void callDried(int seed) {
        int w = from(1, random.nextBoolean() ? 9999 : 200);
        int d = from(0, Math.max(1, Math.min(w, 9999)));
        int air = from(0, 9), n = from(0, 200);
        int most = Math.max(1, Math.min(w, 9999));
        int x0 = from(0, random.nextBoolean() ? 9999 : most);
        due(seed, "dried(" + w + ", " + d + ", " + air + ", " + n + ")", x.dried(w, d, air, n), model.dried(w, d, air, n));
        due(seed, "days(" + w + ", " + d + ", " + air + ", " + x0 + ")", x.days(w, d, air, x0), model.days(w, d, air, x0));
    }
}
