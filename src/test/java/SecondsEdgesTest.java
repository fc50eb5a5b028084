/** A SECOND by itself: where each number of it is cut, held or above what it must be above. By hand. */
public final class SecondsEdgesTest {
    private static final int NONE = -9;
    private static final Check check = new Check("SecondsEdgesTest");

    public static void main(String[] args) {
        howMany();
        facesThatAreDown();
        facesThatAreNot();
        facesInWater();
        core();
        steam();
        steamOfTheCore();
        water();
        waterByPricks();
        brown();
        press();
        pull();
        holds();
        above();
        leastFace();
        wholeNoMore();
        turns();
        pricks();
        spots();
        anew();
        images();
        check.end();
    }

    private static void due(String call, long got, long want) {
        check.due(call, got, want);
    }

    /** Of RADIUS r, so strong that it stays whole; nothing in it, but for WATER. */
    private static BurstSkins strong(int radius, int water) {
        return Check.read("skin " + radius + " 999 0 " + water + " 999 0 0;");
    }

    /** Two SECONDS: first 90 degrees at the face down, then by a fire of h. */
    private static BurstSkins twoFires(int water, int h) {
        BurstSkins x = strong(9, water);
        x.fire(300, 1);
        x.fire(h, 1);
        return x;
    }

    private static void howMany() {
        BurstSkins x = new BurstSkins();
        x.fire(20, 1);
        due("7: one SECOND", x.now(4), 1);
        x.fire(20, 99);
        due("7: 99 SECONDS", x.now(4), 100);
        x.simmer(20, 1);
        due("8: one SECOND", x.now(4), 101);
        x.simmer(20, 99);
        due("8: 99 SECONDS", x.now(4), 200);
        x.fire(300, 1);
        due("7: the hottest, (300 less 20) by 4", x.face(0, 0), 90);
        x.anew();
        x.fire(0, 1);
        due("7: the coldest, 20 by 4", x.face(0, 0), 15);
        x.anew();
        x.simmer(100, 1);
        due("8: the hottest, (100 less 20) by 4", x.face(0, 0), 40);
    }

    private static void facesThatAreDown() {
        for (int f = 0; f < 4; f++) {
            BurstSkins x = turned(strong(9, 0), f);
            int[] heats = {23, 24, 24, 18, 17, 24, 28};
            int[] degrees = {20, 21, 21, 21, 20, 21, 22};
            for (int i = 0; i < heats.length; i++) {
                x.fire(heats[i], 1);
                due("12: face " + f + " by " + heats[i], x.face(f, 0), degrees[i]);
                due("12: another stays", x.face((f + 1) % 4, 0), 20);
            }
        }
    }

    private static BurstSkins turned(BurstSkins x, int quarters) {
        if (quarters > 0) {
            x.turn(quarters);
        }
        return x;
    }

    private static void facesThatAreNot() {
        for (int f = 0; f < 4; f++) {
            for (int k = 1; k <= 3; k++) {
                BurstSkins warm = turned(strong(9, 0), f);
                warm.fire(84, 1);
                due("12: warmed", warm.face(f, 0), 36);
                warm.turn(k);
                warm.fire(20, 1);
                due("12: 16 by 16 cooler", warm.face(f, 0), 35);
                warm.fire(20, 1);
                due("12: 15 by 16 is 0", warm.face(f, 0), 35);
                BurstSkins cold = turned(strong(9, 0), f);
                cold.fire(0, 7);
                due("12: cooled", cold.face(f, 0), 4);
                cold.turn(k);
                cold.fire(20, 1);
                due("12: cooler by -16 by 16", cold.face(f, 0), 5);
                cold.fire(20, 1);
                due("12: -15 by 16 is 0", cold.face(f, 0), 5);
            }
        }
    }

    private static void facesInWater() {
        BurstSkins x = strong(9, 0);
        int[] heats = {23, 24, 20, 100, 37, 36};
        int[] degrees = {20, 21, 21, 40, 40, 39};
        for (int i = 0; i < heats.length; i++) {
            x.simmer(heats[i], 1);
            due("12: by " + heats[i], x.face(0, 0), degrees[i]);
            for (int f = 1; f < 4; f++) {
                due("12: face " + f + " as face 0", x.face(f, 0), x.face(0, 0));
            }
        }
        BurstSkins y = strong(9, 0);
        y.fire(300, 1);
        y.simmer(50, 1);
        due("12: each by its own: 90 less 10", y.face(0, 0), 80);
        due("12: 20 and 7", y.face(1, 0), 27);
    }

    private static void core() {
        int[] more = {8, 4, 2, 2, 1, 1, 1, 1, 0};
        for (int radius = 1; radius <= 9; radius++) {
            BurstSkins x = strong(radius, 0);
            x.fire(300, 1);
            due("13: 70 by 8 times " + radius, x.now(1), 20 + more[radius - 1]);
        }
        core(1, 48, 20, "7 by 8");
        core(1, 52, 21, "8 by 8");
        core(1, 0, 20, "-5 by 8");
        BurstSkins cold = strong(1, 0);
        cold.fire(0, 1);
        cold.fire(7, 1);
        due("13: 13 and 60 less 80 by 8", cold.now(1), 20);
        cold.fire(8, 1);
        due("13: 12 and 60 less 80 by 8", cold.now(1), 19);
        due("13: a fire of 61: 71 by 72", coreByTwo(61), 20);
        due("13: a fire of 65: 72 by 72", coreByTwo(65), 21);
        BurstSkins each = strong(9, 0);
        each.simmer(92, 1);
        due("13: the sum of all faces: 4 times 18 by 72", each.now(1), 21);
    }

    private static void core(int radius, int heat, int want, String why) {
        BurstSkins x = strong(radius, 0);
        x.fire(heat, 1);
        due("13: THE CORE, " + why, x.now(1), want);
    }

    /** Faces of 37, then one of them by (h less 37) by 4, the others 36. */
    private static int coreByTwo(int h) {
        BurstSkins x = strong(9, 0);
        x.simmer(88, 1);
        x.fire(h, 1);
        return x.now(1);
    }

    private static void steam() {
        due("13: 100 degrees", twoFires(300, 130).now(9), 0);
        due("13: 101 degrees", twoFires(300, 134).now(9), 1);
        due("13: no WATER", twoFires(0, 134).now(9), 0);
        for (int f = 0; f < 4; f++) {
            BurstSkins x = turned(strong(9, 300), f);
            x.fire(300, 1);
            due("13: 90 degrees", x.now(9), 0);
            x.fire(134, 1);
            due("13: STEAM by face " + f, x.now(9), 1);
            x.fire(20, 1);
            due("13: that of the latest SECOND", x.now(9), 0);
        }
        BurstSkins last = strong(9, 1);
        last.fire(300, 2);
        due("13: STEAM of the last WATER", last.now(9), 42);
        due("13: which is gone", last.now(2), 0);
        last.fire(300, 1);
        due("13: no more STEAM", last.now(9), 0);
        BurstSkins water = strong(1, 300);
        water.simmer(100, 99);
        due("13: water of 100 degrees is not above 100", water.now(9), 0);
    }

    /** Hot all round, then cold from outside: THE CORE is the hottest. */
    private static void steamOfTheCore() {
        BurstSkins x = strong(3, 999);
        for (int i = 0; i < 16; i++) {
            x.fire(300, 5);
            x.turn(1);
        }
        int seconds = 0;
        for (int s = 0; s < 20; s++) {
            x.simmer(20, 1);
            int faces = Math.max(Math.max(x.face(0, 0), x.face(1, 0)), Math.max(x.face(2, 0), x.face(3, 0)));
            seconds += x.now(1) > faces && x.now(1) > 100 ? 1 : 0;
            due("13: STEAM by the hottest", x.now(9), Math.max(0, Math.max(faces, x.now(1)) - 100));
        }
        check.isTrue("13: THE CORE was that", seconds > 0);
        check.isTrue("13: WATER was left", x.now(2) > 0);
    }

    private static void water() {
        due("13: STEAM 19 by 20", twoFires(300, 206).now(2), 300);
        due("13: STEAM 20 by 20", twoFires(300, 210).now(2), 299);
        due("13: STEAM 39 by 20", twoFires(300, 286).now(2), 299);
        due("13: STEAM 40 by 20", twoFires(300, 290).now(2), 298);
        due("13: 2 less of 3", twoFires(3, 290).now(2), 1);
        due("13: 2 less of 2", twoFires(2, 290).now(2), 0);
        due("13: 2 less of 1: 0 at least", twoFires(1, 290).now(2), 0);
        due("13: none of none", twoFires(0, 290).now(2), 0);
    }

    /** In water of 64 degrees THE CORE comes to 60, of 65 to 61. */
    private static BurstSkins coreOf60(int water, int pricks) {
        BurstSkins x = strong(1, water);
        x.simmer(64, 99);
        due("13: THE CORE of 60", x.now(1), 60);
        for (int left = pricks; left > 0; left -= 9) {
            x.prick(Math.min(9, left));
        }
        return x;
    }

    private static void waterByPricks() {
        int[][] pricksAndLess = {{0, 0}, {2, 0}, {3, 1}, {5, 1}, {6, 2}, {9, 3}, {98, 32}, {99, 33}};
        for (int[] p : pricksAndLess) {
            BurstSkins x = coreOf60(300, p[0]);
            x.simmer(64, 1);
            due("13: by a core of 60, PRICKS " + p[0], x.now(2), 300);
            x.simmer(65, 1);
            due("13: THE CORE of 61", x.now(1), 61);
            due("13: by a core of 61, PRICKS " + p[0], x.now(2), 300 - p[1]);
        }
        for (int water = 0; water <= 3; water++) {
            BurstSkins x = coreOf60(water, 6);
            x.simmer(65, 1);
            due("13: WATER " + water + " less 2", x.now(2), Math.max(0, water - 2));
        }
        BurstSkins both = coreOf60(300, 6);
        both.fire(300, 1);
        check.isTrue("13: it steams, and is above 60", both.now(9) == 20 && both.now(1) > 60);
        due("13: by STEAM 20 by 20, and by 6 by 3 besides", both.now(2), 300 - 1 - 2);
    }

    private static void brown() {
        int[][] heatAndBrown = {{130, 0}, {206, 0}, {210, 0}, {246, 0}, {250, 1}, {286, 1}, {290, 2}, {300, 2}};
        for (int[] h : heatAndBrown) {
            due("12: BROWN by a fire of " + h[0], twoFires(0, h[0]).face(0, 1), h[1]);
        }
        for (int f = 0; f < 4; f++) {
            BurstSkins x = turned(strong(9, 0), f);
            x.fire(300, 2);
            for (int g = 0; g < 4; g++) {
                due("12: face " + g + ", " + f + " down", x.face(g, 1), g == f ? 2 : 0);
            }
            x.turn(2);
            x.fire(20, 1);
            due("12: browner when it is not down, too: 142 less 7", x.face(f, 1), 3);
            x.simmer(100, 1);
            due("12: not below 130", x.face(f, 1), 3);
            x.simmer(20, 9);
            due("12: nor less when it is cold", x.face(f, 1), 3);
        }
        BurstSkins wet = strong(9, 0);
        wet.fire(300, 2);
        wet.simmer(100, 1);
        due("12: by SIMMER, too: 142 less 10", wet.face(0, 1), 3);
        BurstSkins black = strong(9, 0);
        black.fire(300, 60);
        due("12: 17 in a SECOND", black.face(0, 0), 297);
        for (int brown = black.face(0, 1); brown < 999; brown += 17) {
            due("12: BROWN", black.face(0, 1), brown);
            black.fire(300, 1);
        }
        due("12: 999 at most", black.face(0, 1), 999);
        black.fire(300, 99);
        due("12: not more", black.face(0, 1), 999);
    }

    private static void press() {
        due("13: a core of 43", coreInWaterOf(47, 43, 0).now(7), 0);
        due("13: a core of 44", coreInWaterOf(48, 44, 0).now(7), 1);
        due("13: a core of 47", coreInWaterOf(51, 47, 0).now(7), 1);
        due("13: a core of 48", coreInWaterOf(52, 48, 0).now(7), 2);
        due("13: and FULL", coreInWaterOf(52, 48, 99).now(7), 101);
        due("13: a cold core takes none away", coreInWaterOf(20, 20, 99).now(7), 99);
        due("13: STEAM 1", twoFires(300, 134).now(7), 0);
        due("13: STEAM 2", twoFires(300, 138).now(7), 1);
        due("13: STEAM 3", twoFires(300, 142).now(7), 1);
        due("13: STEAM 4", twoFires(300, 146).now(7), 2);
        BurstSkins x = Check.read("skin 9 999 11 0 999 0 0;");
        int[] press = {6, 1, 0, 0};
        for (int p = 0; p < press.length; p++) {
            x.prick(1);
            due("13: at once, PRICKS " + (p + 1), x.now(7), press[p]);
            due("12: PULL round of it", x.face(0, 3), 9 * press[p]);
            due("13: PULL along of it", x.now(8), 9 * press[p] / 2);
        }
        BurstSkins least = Check.read("skin 1 1 0 0 1 0 0;");
        due("13: FULL of 0", least.now(7), 0);
        BurstSkins most = Check.read("skin 9 999 99 0 999 0 0;");
        due("13: FULL of 99", most.now(7), 99);
        due("12: and the greatest RADIUS", most.face(3, 3), 891);
        due("13: along", most.now(8), 445);
    }

    private static BurstSkins coreInWaterOf(int t, int core, int full) {
        BurstSkins x = Check.read("skin 1 999 " + full + " 0 999 0 0;");
        x.simmer(t, 99);
        due("13: THE CORE in water of " + t, x.now(1), core);
        return x;
    }

    private static void pull() {
        for (int f = 0; f < 4; f++) {
            for (int by : new int[] {0, 1, 99}) {
                BurstSkins x = Check.read("skin 7 999 3 0 999 0 0;bent " + f + " " + by + ";");
                for (int g = 0; g < 4; g++) {
                    due("12: PULL round at " + g + ", bent at " + f, x.face(g, 3), g == f ? 21 + by : 21);
                }
                due("13: along the bend is none", x.now(8), 10);
            }
        }
    }

    private static void holds() {
        int[][] heatAndLess = {{174, 0}, {178, 0}, {182, 1}, {186, 1}, {190, 2}};
        for (int[] h : heatAndLess) {
            BurstSkins x = strong(9, 0);
            x.fire(300, 2);
            x.fire(h[0], 1);
            due("12: 142 and (h less 142) by 4", x.face(0, 0), 142 + (h[0] - 142) / 4);
            due("12: holds by a fire of " + h[0], x.face(0, 2), 999 - h[1]);
            due("12: a cold one holds no more", x.face(1, 2), 999);
        }
        int[][] skinThinHolds = {{42, 40, 2}, {41, 40, 1}, {40, 40, 1}, {39, 40, 1}, {1, 0, 1}, {999, 0, 999},
            {999, 999, 1}, {1, 999, 1}};
        for (int[] s : skinThinHolds) {
            BurstSkins x = Check.read("skin 1 " + s[0] + " 0 0 1 " + s[1] + " 0;");
            for (int set = 0; set <= 15; set++) {
                x.spots(set);
                for (int f = 0; f < 4; f++) {
                    boolean isThin = (set & 1 << f) != 0;
                    due("12: SKIN " + s[0] + " THIN " + s[1] + " face " + f + " of " + set, x.face(f, 2), isThin ? s[2] : s[0]);
                }
            }
        }
        BurstSkins burnt = Check.read("skin 1 75 0 0 999 0 0;");
        burnt.fire(300, 99);
        due("12: 75 less 147 by 2", burnt.face(0, 2), 2);
        due("12: 74 less 147 by 2", burntOf(74), 1);
        due("12: 73 less 147 by 2: 1 at least", burntOf(73), 1);
        due("12: 72: 1 at least", burntOf(72), 1);
    }

    private static int burntOf(int skin) {
        BurstSkins x = Check.read("skin 1 " + skin + " 0 0 999 0 0;");
        x.fire(300, 99);
        return x.face(0, 2);
    }

    private static int goes(String text, int spots) {
        BurstSkins x = Check.read(text);
        x.spots(spots);
        return x.fire(20, 1);
    }

    private static void above() {
        due("7: PULL 80, holds 80", goes("skin 4 80 20 0 999 0 0;", 0), 0);
        due("7: PULL 80, holds 79", goes("skin 4 79 20 0 999 0 0;", 0), 1);
        due("7: PULL 80, with a spot 80", goes("skin 4 90 20 0 999 10 0;", 15), 0);
        due("7: PULL 80, with a spot 79", goes("skin 4 89 20 0 999 10 0;", 15), 1);
        due("7: PULL 80 and a bend of 5, holds 85", goes("skin 4 85 20 0 999 0 0;bent 0 5;", 0), 0);
        due("7: PULL 80 and a bend of 5, holds 84", goes("skin 4 84 20 0 999 0 0;bent 0 5;", 0), 1);
        due("7: PULL along 40, ENDS 40", goes("skin 4 999 20 0 40 0 0;", 0), 0);
        due("7: PULL along 40, ENDS 39", goes("skin 4 999 20 0 39 0 0;", 0), 2);
        due("7: PULL along 45 by 2, ENDS 22", goes("skin 3 999 15 0 22 0 0;", 0), 0);
        due("7: PULL along 45 by 2, ENDS 21", goes("skin 3 999 15 0 21 0 0;", 0), 2);
        due("7: along without the bend", goes("skin 4 999 20 0 40 0 0;bent 0 99;", 0), 0);
        due("7: SPLIT ahead of POPPED", goes("skin 4 79 20 0 1 0 0;", 0), 1);
        due("7: the least SKIN, nothing in it", goes("skin 9 1 0 0 1 0 0;", 15), 0);
        due("7: PULL 1, holds 1", goes("skin 1 1 1 0 1 999 0;", 15), 0);
        due("7: PULL 2, holds 1", goes("skin 1 1 2 0 1 999 0;", 15), 1);
        due("7: the bend alone pulls, holds 9", goes("skin 1 9 0 0 1 0 0;bent 3 9;", 0), 0);
        due("7: the bend alone pulls, holds 8", goes("skin 1 8 0 0 1 0 0;bent 3 9;", 0), 1);
        BurstSkins wet = Check.read("skin 4 79 20 0 999 0 0;");
        due("8: SPLIT in water", wet.simmer(20, 1), 1);
        due("8: POPPED in water", Check.read("skin 4 999 20 0 39 0 0;").simmer(20, 1), 2);
        // It goes in a SECOND alone.
        BurstSkins still = Check.read("skin 4 79 20 0 39 0 0;");
        still.turn(1);
        still.spots(15);
        due("13: whole ahead of a SECOND", still.now(5), 0);
        due("13: PRESS, too", still.now(7), 20);
        still.prick(1);
        due("7: 15 times 4 is below 79, along 30 below 39", still.fire(20, 1), 0);
    }

    private static void leastFace() {
        for (int set = 0; set <= 15; set++) {
            BurstSkins x = Check.read("skin 4 89 20 0 999 10 0;");
            x.spots(set);
            x.fire(20, 1);
            int least = set == 0 ? NONE : Integer.numberOfTrailingZeros(set);
            due("13: where, THIN SPOTS " + set, x.now(6), least);
            due("13: SPLIT, THIN SPOTS " + set, x.now(5), set == 0 ? 0 : 1);
        }
        for (int f = 0; f < 4; f++) {
            BurstSkins x = Check.read("skin 4 80 20 0 999 0 0;bent " + f + " 1;");
            x.fire(20, 1);
            due("13: where it is bent", x.now(6), f);
        }
        BurstSkins popped = Check.read("skin 4 999 20 0 39 0 0;");
        popped.fire(20, 1);
        due("13: POPPED: NONE", popped.now(6), NONE);
        due("13: whole: NONE", new BurstSkins().now(6), NONE);
    }

    /** Beside one that stays whole: PRESS and PULL are none, all else goes on alike. */
    private static void wholeNoMore() {
        String[] weak = {"skin 2 150 9 300 999 0 0;", "skin 2 999 9 300 20 0 0;"};
        for (int how = 1; how <= 2; how++) {
            BurstSkins x = Check.read(weak[how - 1]);
            BurstSkins whole = Check.read("skin 2 999 9 300 999 0 0;");
            x.prick(1);
            whole.prick(1);
            x.fire(300, 30);
            whole.fire(300, 30);
            due("13: it went", x.now(5), how);
            due("13: the other did not", whole.now(5), 0);
            int where = x.now(6);
            for (int i = 0; i < 9; i++) {
                x.turn(1);
                whole.turn(1);
                x.prick(9);
                whole.prick(9);
                due("7: as it went", x.fire(280, 9), how);
                due("8: as it went", x.simmer(90, 1), how);
                whole.fire(280, 9);
                whole.simmer(90, 1);
                alike(x, whole);
                due("13: where stays", x.now(6), where);
            }
        }
        BurstSkins bent = Check.read("skin 4 50 20 0 40 0 0;bent 3 33;");
        bent.fire(20, 1);
        due("12: what the bend pulls stays", bent.face(3, 3), 33);
        due("12: at no other face", bent.face(0, 3), 0);
    }

    private static void alike(BurstSkins gone, BurstSkins whole) {
        for (int what : new int[] {0, 1, 2, 3, 4, 9}) {
            due("13: now(" + what + ") goes on", gone.now(what), whole.now(what));
        }
        for (int f = 0; f < 4; f++) {
            due("12: degrees go on", gone.face(f, 0), whole.face(f, 0));
            due("12: BROWN goes on", gone.face(f, 1), whole.face(f, 1));
            due("12: PULL round is none", gone.face(f, 3), 0);
        }
        due("13: PRESS 0", gone.now(7), 0);
        due("13: PULL along 0", gone.now(8), 0);
    }

    private static void turns() {
        for (int from = 0; from < 4; from++) {
            for (int k = 1; k <= 3; k++) {
                BurstSkins x = turned(new BurstSkins(), from);
                due("9: from " + from + " by " + k, x.turn(k), (from + k) % 4);
                due("13: that is down", x.now(0), (from + k) % 4);
            }
        }
    }

    private static void pricks() {
        BurstSkins x = new BurstSkins();
        for (int i = 1; i <= 10; i++) {
            due("10: 9 more", x.prick(9), 9 * i);
        }
        due("10: 98", x.prick(8), 98);
        due("10: 99", x.prick(1), 99);
        due("10: 99 at most", x.prick(1), 99);
        due("10: 99 at most by 9", x.prick(9), 99);
        due("13: PRICKS", x.now(3), 99);
        BurstSkins y = new BurstSkins();
        due("10: by one", y.prick(1), 1);
        due("10: 1 and 9", y.prick(9), 10);
        for (int i = 0; i < 9; i++) {
            y.prick(9);
        }
        due("10: 91 and 9 is 99", y.now(3), 91);
        due("10: held", y.prick(9), 99);
    }

    private static void spots() {
        BurstSkins x = new BurstSkins();
        int was = 0;
        for (int set : new int[] {15, 0, 1, 2, 4, 8, 15, 15, 7}) {
            due("11: what it was", x.spots(set), was);
            was = set;
        }
        x.fire(300, 40);
        due("11: SECONDS leave it", x.spots(0), 7);
    }

    private static void anew() {
        BurstSkins x = Check.read("skin 2 60 9 77 999 9 5;bent 1 2;turn 2;");
        due("14: no SECONDS", x.anew(), 0);
        x.turn(3);
        x.prick(4);
        x.spots(9);
        x.keep(0);
        x.fire(300, 99);
        x.simmer(100, 99);
        x.keep(1);
        due("13: SPLIT", x.now(5), 1);
        due("14: 198 SECONDS", x.anew(), 198);
        int[] now = {0, 20, 77, 0, 0, 0, NONE, 9, 9, 0};
        for (int what = 0; what < now.length; what++) {
            due("14: now(" + what + ")", x.now(what), now[what]);
        }
        for (int f = 0; f < 4; f++) {
            due("14: degrees", x.face(f, 0), 20);
            due("14: BROWN", x.face(f, 1), 0);
            due("14: holds", x.face(f, 2), 60);
            due("14: PULL round", x.face(f, 3), f == 1 ? 20 : 18);
        }
        due("14: THIN SPOTS", x.spots(0), 0);
        due("14: THE PLAN stays", x.doing(0, 1), 2);
        due("14: IMAGE 0 stays", x.back(0), 0);
        due("31: THIN SPOTS of it", x.spots(0), 9);
        due("31: PRICKS of it", x.now(3), 4);
        due("31: the face down", x.now(0), 3);
        due("14: IMAGE 1 stays", x.back(1), 198);
        due("31: SPLIT", x.now(5), 1);
    }

    private static void images() {
        BurstSkins x = Check.read("skin 3 120 10 300 300 40 0;");
        x.fire(300, 2);
        due("30: SECONDS", x.keep(0), 2);
        x.fire(300, 1);
        due("13: SPLIT", x.now(5), 1);
        due("30: SECONDS then", x.keep(1), 3);
        due("31: ahead of it", x.back(0), 2);
        due("31: whole again", x.now(5), 0);
        due("31: no face", x.now(6), NONE);
        due("31: STEAM of then", x.now(9), 42);
        due("31: PRESS of then", x.now(7), 31);
        due("31: WATER of then", x.now(2), 298);
        due("7: it goes again", x.fire(300, 1), 1);
        due("31: behind it", x.back(1), 3);
        due("31: SPLIT at", x.now(6), 0);
        due("31: BROWN of then", x.face(0, 1), 8);
        x.anew();
        due("30: kept over what was", x.keep(1), 0);
        x.fire(20, 5);
        due("31: that of the latest keep", x.back(1), 0);
        due("31: the other stays", x.back(0), 2);
    }
}
