import java.util.ArrayList;
import java.util.List;

/** Pans, causes, dry ones, tests, tubes, kinds, counts: by hand, or by asking for all that may be. */
public final class RestEdgesTest {
    private static final int STATE = -2, NONE = -9;
    private static final Check check = new Check("RestEdgesTest");

    public static void main(String[] args) {
        heats();
        evenByHand();
        evenByAllRows();
        beganByHand();
        beganAtTheLastSecond();
        beganByChangedTexts();
        why();
        dryDays();
        hardness();
        daysTill();
        tests();
        tubes();
        marks();
        counts();
        check.end();
    }

    private static void due(String call, long got, long want) {
        check.due(call, got, want);
    }

    private static void heats() {
        BurstSkins x = new BurstSkins();
        int[] first = {40, 90, 90, 40};
        for (int cell = 0; cell < 4; cell++) {
            due("20: at first", x.heat(cell, 99), first[cell]);
            due("20: the greatest", x.heat(cell, 0), 99);
            due("20: the least", x.heat(cell, 10 + cell), 0);
        }
        for (int cell = 0; cell < 4; cell++) {
            due("20: each by itself", x.heat(cell, 0), 10 + cell);
        }
    }

    private static BurstSkins panOf(int... heats) {
        BurstSkins x = new BurstSkins();
        for (int cell = 0; cell < 4; cell++) {
            x.heat(cell, heats[cell]);
        }
        return x;
    }

    private static void dueEven(int[] heats, int rounds, int most, int row) {
        BurstSkins x = panOf(heats);
        String pan = heats[0] + " " + heats[1] + " " + heats[2] + " " + heats[3];
        due("21: the most of " + pan + " in " + rounds, x.even(rounds, 0), most);
        due("21: the first row of " + pan + " in " + rounds, x.even(rounds, 1), row);
    }

    private static void evenByHand() {
        for (int rounds = 1; rounds <= 3; rounds++) {
            dueEven(new int[] {0, 0, 0, 0}, rounds, 0, 0);
            dueEven(new int[] {99, 99, 99, 99}, rounds, 99 * rounds, 0);
            dueEven(new int[] {0, 0, 0, 99}, rounds, 0, 0);
            dueEven(new int[] {7, 7, 7, 7}, rounds, 7 * rounds, 0);
        }
        // One cold cell: another of the four lies there in each round; 6 is 1 0 2 3.
        dueEven(new int[] {0, 99, 99, 99}, 1, 0, 0);
        dueEven(new int[] {0, 99, 99, 99}, 2, 99, 6);
        dueEven(new int[] {0, 99, 99, 99}, 3, 198, 6 * 24 + 8);
        // Two cold ones: 16 is 2 3 0 1, the two that were hot are cold.
        dueEven(new int[] {0, 0, 50, 50}, 2, 50, 16);
        dueEven(new int[] {50, 50, 0, 0}, 2, 50, 16);
        // 23 is 3 2 1 0: the hottest for the one that had the coldest.
        dueEven(new int[] {10, 20, 30, 40}, 2, 50, 23);
        dueEven(new int[] {40, 30, 20, 10}, 2, 50, 23);
    }

    private static List<int[]> orders() {
        List<int[]> all = new ArrayList<>();
        for (int a = 0; a < 4; a++) {
            for (int b = 0; b < 4; b++) {
                for (int c = 0; c < 4; c++) {
                    int d = 6 - a - b - c;
                    boolean isOrder = a != b && a != c && b != c && d != a && d != b && d != c;
                    if (isOrder) {
                        all.add(new int[] {a, b, c, d});
                    }
                }
            }
        }
        return all;
    }

    /** The heats by a rule, the same each time: far apart, and with some that are alike. */
    private static void evenByAllRows() {
        List<int[]> orders = orders();
        due("21: as many orders", orders.size(), 24);
        for (int i = 0; i < 240; i++) {
            int[] heats = {i * 37 % 100, i * 53 / 3 % 100, i * i % 97, i * 71 / 7 % 83};
            if (i % 5 == 0) {
                heats[i / 5 % 4] = heats[(i / 5 + 1) % 4];
            }
            int rounds = i < 40 ? 3 : 1 + i % 2;
            int[] best = mostEven(heats, orders, rounds);
            dueEven(heats, rounds, best[0], best[1]);
        }
    }

    private static int[] mostEven(int[] heats, List<int[]> orders, int rounds) {
        int rows = rounds == 1 ? 24 : rounds == 2 ? 24 * 24 : 24 * 24 * 24;
        int[] best = {-1, -1};
        for (int row = 0; row < rows; row++) {
            int[] has = new int[4];
            for (int round = 0, rest = row; round < rounds; round++, rest /= 24) {
                for (int i = 0; i < 4; i++) {
                    has[i] += heats[orders.get(rest % 24)[i]];
                }
            }
            int least = Math.min(Math.min(has[0], has[1]), Math.min(has[2], has[3]));
            if (least > best[0]) {
                best = new int[] {least, row};
            }
        }
        return best;
    }

    private static void dueBegan(String text, int f, int... ofNine) {
        BurstSkins x = Check.read(text);
        for (int cause = 0; cause < ofNine.length; cause++) {
            due("22: began(1, " + f + ", " + cause + ") of '" + text + "'", x.began(1, f, cause), ofNine[cause]);
        }
    }

    /** PULL is 4 times FULL; in the first SECOND nothing else matters. */
    private static void beganByHand() {
        String second = " 0;fire 20 1;";
        int[][] skinAndFull = {{95, 9}, {96, 8}, {111, 8}, {112, 7}, {207, 2}, {208, 1}, {223, 1}, {224, 0}};
        for (int[] s : skinAndFull) {
            due("22: FULL 4 v more, SKIN " + s[0],
                Check.read("skin 4 " + s[0] + " 20 0 999 0" + second).began(1, 0, 2), s[1]);
        }
        int[][] skinAndLess = {{80, 9}, {89, 9}, {90, 8}, {99, 8}, {100, 7}, {159, 2}, {160, 1}, {169, 1}, {170, 0}};
        for (int[] s : skinAndLess) {
            due("22: SKIN 10 v less, SKIN " + s[0],
                Check.read("skin 4 " + s[0] + " 20 0 999 0" + second).began(1, 0, 4), s[1]);
        }
        dueBegan("skin 4 80 20 0 999 0" + second, 0, 0, 0, 9, 0, 9);
        dueBegan("skin 4 79 20 0 999 0" + second, 0, 9, 9, 9, 9, 9);
        dueBegan("skin 4 79 20 0 999 0" + second, 1, 0, 0, 0, 0, 0);
        // FULL 99 at most: 98, and 95 with v of 1 and more.
        dueBegan("skin 4 395 98 0 999 0" + second, 0, 0, 0, 9, 0, 9);
        dueBegan("skin 4 396 98 0 999 0" + second, 0, 0, 0, 0, 0, 9);
        dueBegan("skin 4 395 92 0 999 0" + second, 0, 0, 0, 8, 0, 7);
        dueBegan("skin 4 395 99 0 999 0" + second, 0, 9, 9, 9, 9, 9);
        // SKIN 1 at least: PULL 1 is not above that, PULL 2 is.
        dueBegan("skin 1 5 1 0 999 0" + second, 0, 0, 0, 8, 0, 0);
        dueBegan("skin 1 5 2 0 999 0" + second, 0, 0, 0, 9, 0, 9);
        dueBegan("skin 1 15 2 0 999 0" + second, 0, 0, 0, 6, 0, 8);
        hottestFires();
        // A THIN spot at f, no other.
        for (int f = 0; f < 4; f++) {
            for (int g = 0; g < 4; g++) {
                dueBegan("skin 4 84 20 0 999 9 9;bent " + g + " 4;fire 20 1;", f, 0, 9);
            }
            dueBegan("skin 4 89 20 0 999 9" + second, f, 0, 0);
            dueBegan("skin 4 88 20 0 999 9" + second, f, 0, 9);
        }
        // POPPED is not at a face.
        dueBegan("skin 4 999 20 0 39 0" + second, 0, 0, 0, 0, 0, 0);
        due("22: not in another SECOND", Check.read("skin 4 79 20 0 999 0 0;fire 20 9;").began(2, 0, 0), 0);
    }

    /** Two SECONDS of FIRE 300: PRESS 31, PULL 93; of FIRE 299 PRESS 30, PULL 90. */
    private static void hottestFires() {
        int[][] heatAndTimes = {{281, 8}, {282, 8}, {289, 8}, {290, 9}, {291, 9}, {299, 9}, {300, 9}, {219, 1}, {210, 1}, {209, 0}};
        for (int[] h : heatAndTimes) {
            due("22: each fire 10 v hotter than " + h[0],
                Check.read("skin 3 92 10 300 999 0 0;fire " + h[0] + " 2;").began(2, 0, 3), h[1]);
            due("22: 300 at most, from " + h[0],
                Check.read("skin 3 93 10 300 999 0 0;fire " + h[0] + " 2;").began(2, 0, 3), 0);
        }
        due("22: each of them", Check.read("skin 3 92 10 300 999 0 0;fire 290 1;fire 290 1;").began(2, 0, 3), 9);
        due("22: none hotter in water", Check.read("skin 1 999 10 300 999 0 0;simmer 90 9;").began(9, 0, 3), 0);
    }

    private static void beganAtTheLastSecond() {
        String text = "skin 3 149 10 300 999 0 0;" + "simmer 20 99;".repeat(10);
        BurstSkins at = Check.read(text + "simmer 20 6;fire 300 3;");
        due("15: it goes at 999", at.run(0, 0), 999);
        due("22: at 999", at.began(999, 0, 0), 9);
        due("22: at 998", at.began(998, 0, 0), 0);
        BurstSkins behind = Check.read(text + "simmer 20 7;fire 300 3;");
        due("15: it goes at 1000", behind.run(0, 0), 1000);
        due("22: not at 999", behind.began(999, 0, 0), 0);
        due("22: at 999 by one THIN spot alone", Check.read("skin 3 149 10 300 999 60 0;" + "simmer 20 99;".repeat(10)
            + "simmer 20 7;fire 300 3;").began(999, 0, 1), 9);
    }

    private static String changed(int[] sausage, int[] fires, int cause, int v) {
        int skin = cause == 4 ? Math.max(1, sausage[1] - 10 * v) : sausage[1];
        int full = cause == 2 ? Math.min(99, sausage[2] + 4 * v) : sausage[2];
        int more = cause == 3 ? 10 * v : 0;
        return "skin " + sausage[0] + " " + skin + " " + full + " 300 " + sausage[3] + " " + sausage[4] + " 5;bent 2 6;"
            + "fire " + Math.min(300, fires[0] + more) + " 25;turn 1;simmer 90 9;fire " + Math.min(300, fires[1] + more)
            + " 30;turn 3;prick 1;fire " + Math.min(300, fires[2] + more) + " 40;";
    }

    /** Each of the nine is a text of its own, run. */
    private static void beganByChangedTexts() {
        int[][] sausages = {{2, 120, 5, 999, 30}, {3, 160, 9, 300, 40}, {1, 70, 2, 999, 9}, {5, 330, 20, 400, 80},
            {9, 500, 3, 999, 60}, {4, 210, 0, 90, 20}, {2, 100, 5, 60, 20}};
        int[][] fires = {{100, 120, 140}, {180, 200, 220}, {205, 260, 295}, {240, 150, 60}, {20, 230, 299}};
        int seen = 0;
        for (int[] sausage : sausages) {
            for (int[] heats : fires) {
                seen |= beganByChangedTexts(sausage, heats);
            }
        }
        check.isTrue("22: many of the counts 0 to 9: " + Integer.toBinaryString(seen), Integer.bitCount(seen) >= 7);
    }

    private static int beganByChangedTexts(int[] sausage, int[] fires) {
        BurstSkins x = Check.read(changed(sausage, fires, 0, 0));
        int seen = 0;
        for (int cause = 0; cause <= 4; cause++) {
            int[] when = new int[10];
            int[] where = new int[10];
            for (int v = 1; v <= 9; v++) {
                BurstSkins y = Check.read(changed(sausage, fires, cause, v));
                int f = v % 4;
                int spots = cause == 1 ? 1 << f : 0;
                when[v] = y.run(spots, 0);
                where[v] = y.run(spots, 2);
                if (cause == 1 && when[v] != NONE && where[v] == f) {
                    due("22: by a THIN spot", x.began(when[v], f, 1), 9);
                }
            }
            for (int v = 1; v <= 9 && cause != 1; v++) {
                if (where[v] != NONE) {
                    int times = 0;
                    for (int u = 1; u <= 9; u++) {
                        times += when[u] == when[v] && where[u] == where[v] ? 1 : 0;
                    }
                    seen |= 1 << times;
                    due("22: began(" + when[v] + ", " + where[v] + ", " + cause + ") of '"
                        + changed(sausage, fires, 0, 0) + "'", x.began(when[v], where[v], cause), times);
                }
            }
        }
        return seen;
    }

    private static void dueWhy(String text, int f, int cause, int upper, int lower) {
        BurstSkins x = Check.read(text);
        due("23: upper, CAUSE " + cause + " of '" + text + "'", x.why(1, f, cause, 0), upper);
        due("23: lower, CAUSE " + cause + " of '" + text + "'", x.why(1, f, cause, 1), lower);
    }

    private static void why() {
        String all = "skin 4 79 20 0 999 0 0;fire 20 1;";
        for (int cause = 0; cause <= 4; cause++) {
            dueWhy(all, 0, cause, 1, 5);
            dueWhy(all, 1, cause, STATE, STATE);
            dueWhy("skin 4 999 20 0 39 0 0;fire 20 1;", 0, cause, STATE, STATE);
        }
        // 8 of FULL, 6 of SKIN: what is 0 is 0 of 1.
        String some = "skin 4 110 20 0 999 0 0;fire 20 1;";
        int[][] odds = {{0, 1}, {0, 1}, {4, 7}, {0, 1}, {3, 7}};
        for (int cause = 0; cause <= 4; cause++) {
            dueWhy(some, 0, cause, odds[cause][0], odds[cause][1]);
        }
        // 1 alone of FULL: one of one.
        String one = "skin 4 223 20 0 999 0 0;fire 20 1;";
        for (int cause = 0; cause <= 4; cause++) {
            dueWhy(one, 0, cause, cause == 2 ? 1 : 0, 1);
        }
        // Of FULL 1 and of a spot 9: a tenth.
        dueWhy("skin 4 223 20 0 999 150 0;fire 20 1;", 0, 2, 1, 10);
        dueWhy("skin 4 223 20 0 999 150 0;fire 20 1;", 0, 1, 9, 10);
        due("23: at another SECOND", Check.read(all).why(2, 0, 0, 0), STATE);
        due("23: without THE PLAN", new BurstSkins().why(1, 0, 4, 1), STATE);
    }

    private static void dryDays() {
        BurstSkins x = new BurstSkins();
        int[] days = {100, 90, 81, 73, 66, 60, 54, 49, 45, 41, 37};
        for (int n = 0; n < days.length; n++) {
            due("24: day " + n, x.dried(100, 0, 0, n), days[n]);
        }
        due("24: 9 by 10 is 0", x.dried(9, 0, 0, 200), 9);
        due("24: 10 by 10 is 1", x.dried(10, 0, 0, 1), 9);
        due("24: 9 that are not dry", x.dried(100, 91, 0, 200), 100);
        due("24: 10 that are not dry", x.dried(100, 90, 0, 1), 99);
        due("24: and then 9", x.dried(100, 90, 0, 200), 99);
        due("24: the least that is", x.dried(1, 0, 9, 200), 1);
        due("24: all of it dry", x.dried(9999, 9999, 0, 200), 9999);
        due("24: the most, a day", x.dried(9999, 0, 0, 1), 9000);
        // It goes on to the last day: HARD 27 and more.
        check.isTrue("24: day 200 is not day 199", x.dried(9999, 0, 9, 200) < x.dried(9999, 0, 9, 199));
    }

    /** HARD is more where a day's loss is above w by 50: the next loss tells. */
    private static void hardness() {
        BurstSkins x = new BurstSkins();
        // w, d, the first loss, then 10 and 9, or 10, divide.
        due("24: 2 is not above 100 by 50", x.dried(100, 80, 9, 2), 100 - 2 - 1);
        due("24: 3 is above 100 by 50", x.dried(100, 70, 9, 2), 100 - 3 - 1);
        due("24: without AIR", x.dried(100, 70, 0, 2), 100 - 3 - 2);
        due("24: 2 is above 98 by 50", x.dried(98, 78, 9, 2), 98 - 2);
        due("24: 2 is above 99 by 50", x.dried(99, 79, 9, 2), 99 - 2);
        due("24: 2 is not above 149 by 50, cut to 2", x.dried(149, 129, 9, 2), 149 - 2 - 1);
        due("24: 1 is above 49 by 50, cut to 0", x.dried(49, 29, 9, 2), 49 - 2);
        due("24: 1 is not above 50 by 50", x.dried(50, 30, 1, 3), 50 - 2 - 1 - 1);
        // Each such day, by w at first and not by what is left: 10, 6 (60 by 15 is 4) ..
        due("24: AIR 1: 10 by 10, 90 by 11, 82 by 12, 76 by 13", x.dried(100, 0, 1, 4), 100 - 10 - 8 - 6 - 5);
        due("24: AIR 9: 10 by 10, 90 by 19, 86 by 28, 83 by 37", x.dried(100, 0, 9, 4), 100 - 10 - 4 - 3 - 2);
        due("24: then 81 by 37, no harder", x.dried(100, 0, 9, 5), 81 - 2);
        due("24: HARD is 0 at first, each time", x.dried(100, 0, 9, 1), 90);
    }

    private static void daysTill() {
        BurstSkins x = new BurstSkins();
        int[][] tillAndDays = {{9999, 0}, {101, 0}, {100, 0}, {99, 1}, {90, 1}, {89, 2}, {81, 2}, {80, 3}, {73, 3}};
        for (int[] t : tillAndDays) {
            due("25: till " + t[0], x.days(100, 0, 0, t[0]), t[1]);
        }
        due("25: to the last that dries", x.days(100, 0, 0, 9) > 0 ? 1 : 0, 1);
        due("25: not further", x.days(100, 0, 0, 8), NONE);
        due("25: 0", x.days(100, 0, 0, 0), NONE);
        due("25: nothing dries", x.days(100, 91, 0, 99), NONE);
        due("25: nothing need", x.days(100, 91, 0, 100), 0);
        due("25: with AIR", x.days(100, 0, 9, 81), 4);
        due("25: with AIR, not yet", x.days(100, 0, 9, 82), 4);
        due("25: with AIR, a day ahead", x.days(100, 0, 9, 83), 3);
        // 200 days at most: what is there on the last day, and what would be a day later.
        int last = x.dried(9999, 0, 9, 200);
        due("25: on day 200", x.days(9999, 0, 9, last), 200);
        due("25: on day 199", x.days(9999, 0, 9, x.dried(9999, 0, 9, 199)), 199);
        due("25: not on day 201", x.days(9999, 0, 9, last - 1), NONE);
        for (int n = 0; n <= 60; n++) {
            due("25: the day of each", x.days(5000, 700, 2, x.dried(5000, 700, 2, n)), n);
        }
    }

    private static void dueHolds(BurstSkins x, int least, int greatest, int agree) {
        due("27: the least salt", x.holds(0), least);
        due("27: the greatest with more", x.holds(1), greatest);
        due("27: whether they agree", x.holds(2), agree);
    }

    private static void tests() {
        BurstSkins x = new BurstSkins();
        due("32: no TESTS", x.count(1), 0);
        dueHolds(x, NONE, NONE, 1);
        due("26: one", x.test(20, 100), 1);
        dueHolds(x, 20, NONE, 1);
        due("26: two", x.test(19, 101), 2);
        dueHolds(x, 20, 19, 1);
        x.test(20, 101);
        dueHolds(x, 20, 20, 0);
        x.test(21, 101);
        dueHolds(x, 20, 21, 0);
        x.test(30, 100);
        dueHolds(x, 20, 21, 0);
        x.test(0, 101);
        dueHolds(x, 20, 21, 0);
        x.test(30, 999);
        dueHolds(x, 20, 30, 0);
        x.test(0, 0);
        dueHolds(x, 0, 30, 0);
        BurstSkins more = new BurstSkins();
        more.test(0, 101);
        dueHolds(more, NONE, 0, 1);
        more.test(0, 100);
        dueHolds(more, 0, 0, 0);
        BurstSkins twenty = new BurstSkins();
        for (int i = 1; i <= 19; i++) {
            due("26: TEST " + i, twenty.test(15, i % 2 == 0 ? 50 : 100), i);
        }
        dueHolds(twenty, 15, NONE, 1);
        due("26: the twentieth", twenty.test(14, 100), 20);
        dueHolds(twenty, 14, NONE, 1);
        due("26: FULL", twenty.test(13, 100), -3);
        dueHolds(twenty, 14, NONE, 1);
        due("32: twenty TESTS", twenty.count(1), 20);
    }

    private static void tubes() {
        int[] radii = {1, 2, 3, 7, 9, 10, 50, 98, 99};
        int[] walls = {1, 2, 3, 48, 49, 50, 98, 99, 100, 500, 998, 999};
        for (int r : radii) {
            BurstSkins x = new BurstSkins();
            for (int g : walls) {
                int round = 0;
                while ((round + 1) * r <= g) {
                    round++;
                }
                int along = 0;
                while ((along + 1) * r <= 2 * g) {
                    along++;
                }
                due("28: round, r " + r + ", g " + g, x.tube(r, g, 0), round);
                due("28: along, r " + r + ", g " + g, x.tube(r, g, 1), along);
            }
        }
        due("28: by hand, round", new BurstSkins().tube(2, 3, 0), 1);
        due("28: by hand, along", new BurstSkins().tube(2, 3, 1), 3);
        due("28: the most", new BurstSkins().tube(1, 999, 1), 1998);
        due("28: less than one", new BurstSkins().tube(99, 49, 1), 0);
        due("28: one", new BurstSkins().tube(99, 50, 1), 1);
    }

    private static void marks() {
        int[] comes = {1, 11, 101, 1101, 10011, 100001};
        for (int kind = 0; kind <= 5; kind++) {
            BurstSkins x = new BurstSkins();
            due("33: 0 at first", x.trace(), 0);
            for (int i = 1; i <= 3; i++) {
                x.mark(kind, i);
                due("33: each call of KIND " + kind, x.trace(), (long) i * comes[kind]);
            }
        }
        BurstSkins x = Check.read("skin 3 149 10 300 999 0 0;");
        x.fire(300, 3);
        due("13: it has gone", x.now(5), 1);
        x.turn(1);
        x.fire(20, 1);
        // Face 0: 181 less 10, BROWN 8 and 5; no PRESS; the core 31 and (231 less 124) by 24; WATER 294 less 3.
        int[] due = {171, 184, 171, 342, 184 - 35, 171 + 291};
        int[] cold = {20, 20, 20, 40, 20 - 35, 20 + 291};
        for (int kind = 0; kind <= 5; kind++) {
            due("29: KIND " + kind + " of face 0", x.mark(kind, 0), due[kind]);
            for (int f = 1; f < 4; f++) {
                due("29: KIND " + kind + " of face " + f, x.mark(kind, f), cold[kind]);
            }
        }
        due("33: all together", x.trace(), 4 * (1 + 11 + 101 + 1101 + 10011 + 100001));
        BurstSkins pressed = Check.read("skin 3 999 50 300 999 0 0;");
        due("29: SPLIT with PRESS", pressed.mark(2, 3), -30);
        due("29: CURLED: twice that", pressed.mark(3, 3), -60);
        pressed.prick(9);
        due("29: PRESS as it is NOW", pressed.mark(2, 3), 15);
        pressed.keep(0);
        pressed.anew();
        pressed.back(0);
        due("33: neither anew nor back lessens it", pressed.trace(), 101 + 1101 + 101);
        BurstSkins black = Check.read("skin 9 999 0 999 999 0 0;");
        for (int i = 0; i < 9; i++) {
            black.fire(300, 99);
        }
        due("29: BROWN of 999", black.mark(1, 0), 297 + 999);
    }

    private static void counts() {
        BurstSkins x = new BurstSkins();
        for (int what = 0; what <= 2; what++) {
            due("32: none at first", x.count(what), 0);
        }
        BurstSkins most = Check.read("turn 1;".repeat(12));
        Check.typed(most, " ".repeat(300));
        for (int i = 0; i < 20; i++) {
            most.test(1, 1);
        }
        due("32: DOINGS", most.count(0), 12);
        due("32: TESTS", most.count(1), 20);
        due("32: bytes", most.count(2), 300);
        most.clear();
        due("32: DOINGS stay when THE TEXT is empty", most.count(0), 12);
        due("32: no bytes", most.count(2), 0);
    }
}
