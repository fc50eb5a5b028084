/** Each promise by itself: ordinary calls, edges that the document names, wrong ones; the numbers by hand. */
public final class PromisesTest {
    private static final int BAD = -1, STATE = -2, FULL = -3, NONE = -9, NO = -1000000;
    private static final int MIN = Integer.MIN_VALUE, MAX = Integer.MAX_VALUE;

    private static final Check check = new Check("PromisesTest");

    public static void main(String[] args) {
        newObject();
        typing();
        reading();
        faults();
        limits();
        tellings();
        secondsOfFire();
        secondsOfSimmering();
        goings();
        turnsPricksSpots();
        facesAndNow();
        anewAndImages();
        runs();
        oddsAndPricks();
        simmerings();
        plannings();
        pans();
        causes();
        dryOnes();
        testsAndTubes();
        marks();
        counts();
        check.end();
    }

    private static void due(String call, long got, long want) {
        check.due(call, got, want);
    }

    private static void newObject() {
        BurstSkins x = new BurstSkins();
        int[] first = {3, 200, 10, 300, 300, 40, 2, 4, 0, 0, 0};
        for (int i = 0; i < first.length; i++) {
            due("1: told(" + i + ")", x.told(i), first[i]);
        }
        int[] now = {0, 20, 300, 0, 0, 0, NONE, 10, 15, 0};
        for (int i = 0; i < now.length; i++) {
            due("1: now(" + i + ")", x.now(i), now[i]);
        }
        int[] face = {20, 0, 200, 30};
        for (int f = 0; f < 4; f++) {
            for (int i = 0; i < face.length; i++) {
                due("1: face(" + f + ", " + i + ")", x.face(f, i), face[i]);
            }
        }
        due("1: spots(0)", x.spots(0), 0);
        int[] heats = {40, 90, 90, 40};
        for (int c = 0; c < 4; c++) {
            due("1: heat(" + c + ", 0)", x.heat(c, 0), heats[c]);
        }
        due("1: trace()", x.trace(), 0);
        due("1: count(1)", x.count(1), 0);
        due("1: count(2)", x.count(2), 0);
        due("1: back(0)", x.back(0), STATE);
        due("1: back(1)", x.back(1), STATE);
    }

    private static void typing() {
        BurstSkins x = new BurstSkins();
        due("2: type, n 0", x.type(0, 0), BAD);
        due("2: type, n 9", x.type(0, 9), BAD);
        due("2: type, n least", x.type(0, MIN), BAD);
        due("2: type, n greatest", x.type(0, MAX), BAD);
        due("2: type, nothing came", x.count(2), 0);
        // The lowest bytes alone, the highest of them first: "turn 1;" and what stands above it.
        due("2: type, 7 of 8", x.type(0xFF7475726E20313BL, 7), 7);
        due("2: type, read", x.sausage(), 1);
        due("2: type, as told", x.doing(0, 1), 1);
        for (int i = 1; i <= 37; i++) {
            due("2: type, " + i, x.type(-1L, 8), 8L * i);
        }
        due("2: type beyond 300", x.type(32, 5), FULL);
        due("2: type BAD ahead of FULL", x.type(32, 9), BAD);
        due("2: type up to 300", x.type(32, 4), 300);
        due("2: type when full", x.type(32, 1), FULL);
        due("2: type, 300 stay", x.count(2), 300);
        due("3: clear", x.clear(), 300);
        due("3: clear again", x.clear(), 0);
        due("3: typed after", x.type(32, 1), 1);
    }

    private static void reading() {
        BurstSkins x = new BurstSkins();
        due("4: nothing", x.sausage(), 0);
        Check.typed(x, "   ");
        due("4: blanks", x.sausage(), 0);
        due("4: blanks are gone", x.count(2), 0);
        Check.typed(x, "fire300 1;turn1;prick9;simmer20 99;bent0 0;skin9 999 99 0 1 0 10;  ");
        due("4: none between where not needed", x.sausage(), 6);
        due("4: the text is empty", x.count(2), 0);
        due("4: WATER at first is as told", x.now(2), 0);
        Check.typed(x, " turn  2 ; ");
        due("4: blanks as may be", x.sausage(), 1);
        due("4: what is not told is as at first", x.told(0), 3);
        due("4: the bend, too", x.told(7), 4);
        due("4: THE PLAN is another", x.count(0), 1);
        Check.typed(x, "turn 1;turn 2;turn 3;prick 1;prick 2;fire 0 1;fire 1 2;simmer 20 3;turn 1;turn 1;turn 1;turn 3;bent 3 99;");
        due("4: twelve DOINGS and a bend", x.sausage(), 13);
        due("4: the twelfth", x.doing(11, 1), 3);
        x.fire(200, 5);
        x.keep(0);
        x.heat(0, 7);
        x.test(3, 50);
        x.mark(0, 0);
        due("4: read anew", x.sausage(), 0);
        due("4: NOW is as at first", x.now(4), 0);
        due("4: the core, too", x.face(0, 0), 20);
        due("4: IMAGES are gone", x.back(0), STATE);
        due("4: HEATS stay", x.heat(0, 8), 7);
        due("4: TESTS stay", x.count(1), 1);
        due("4: THE TRACE stays", x.trace(), 1);
    }

    /** A text with a FAULT at a place: told so, and nothing changes. */
    private static void fault(String text, int place) {
        BurstSkins x = Check.read("skin 5 500 5 500 500 50 5;turn 3;");
        x.fire(100, 2);
        x.keep(1);
        Check.typed(x, text);
        due("4: FAULT of '" + text + "'", x.sausage(), -10 - place);
        due("4: the text stays", x.count(2), text.length());
        due("4: FAULT once more", x.sausage(), -10 - place);
        due("4: the sausage stays", x.told(0), 5);
        due("4: THE PLAN stays", x.count(0), 1);
        due("4: NOW stays", x.now(4), 2);
        due("4: IMAGES stay", x.back(1), 2);
    }

    private static void faults() {
        String twelve = "turn 1;".repeat(12);
        fault("turn", 4);
        fault("turn ", 5);
        fault("turn 1 ", 7);
        fault("turn;", 4);
        fault("turn turn", 5);
        fault("turn 1 1;", 7);
        fault("turns 1;", 0);
        fault("tur", 0);
        fault("turnz 1;", 0);
        fault("aturn 1;", 0);
        fault("turn 1a;", 6);
        fault("  turnturn 1;", 2);
        fault("Turn 1;", 0);
        fault("turn 1,", 6);
        fault("turn\t1;", 4);
        fault("turn 1;1;", 7);
        fault("turn 1;;", 7);
        fault("turn 01;", 5);
        fault("turn 1;fire 00 1;", 12);
        fault("fire 4294967297 1;", 5);
        fault("fire 1 18446744073709551617;", 7);
        fault("fire 999 1;", 5);
        fault("skin 3 1000 0 0 1 0 0;", 7);
        fault("skin 3 1 0 0 1 1000 0;", 15);
        fault("skin 3 1 0 0 1 0 0 0;", 19);
        fault("bent 4 0;", 5);
        fault("bent 0 0;bent 0 0;", 9);
        fault("skin 1 1 0 0 1 0 0; skin 1 1 0 0 1 0 0;", 20);
        fault("prick 0;", 6);
        fault("simmer 101 1;", 7);
        fault("simmer 20 0;", 10);
        fault(twelve + "turn 1;", 84);
        fault(twelve + "  prick", 86);
        fault(twelve + "bent 0 100;", 91);
        fault(String.valueOf((char) 255), 0);
        fault("turn 1" + (char) 0, 6);
    }

    /** Each number of each ITEM: the least and the greatest stand, one beyond does not. */
    private static void limits() {
        String[] words = {"skin", "bent", "fire", "turn", "prick", "simmer"};
        int[][] low = {{1, 1, 0, 0, 1, 0, 0}, {0, 0}, {0, 1}, {1}, {1}, {20, 1}};
        int[][] high = {{9, 999, 99, 999, 999, 999, 10}, {3, 99}, {300, 99}, {3}, {9}, {100, 99}};
        for (int w = 0; w < words.length; w++) {
            for (int i = 0; i < low[w].length; i++) {
                limit(words[w], low[w], i, low[w][i], true);
                limit(words[w], low[w], i, high[w][i], true);
                limit(words[w], low[w], i, low[w][i] - 1, false);
                limit(words[w], low[w], i, high[w][i] + 1, false);
            }
        }
    }

    private static void limit(String word, int[] others, int i, int v, boolean stands) {
        if (v < 0) {
            return;
        }
        StringBuilder text = new StringBuilder(word);
        int place = 0;
        for (int k = 0; k < others.length; k++) {
            text.append(' ');
            place = k == i ? text.length() : place;
            text.append(k == i ? v : others[k]);
        }
        text.append(';');
        BurstSkins x = new BurstSkins();
        Check.typed(x, text.toString());
        due("4: sausage() of '" + text + "'", x.sausage(), stands ? 1 : -10 - place);
        if (stands) {
            int told = word.equals("skin") ? x.told(new int[] {0, 1, 2, 3, 4, 5, 6}[i])
                : word.equals("bent") ? x.told(7 + i) : x.doing(0, 1 + i);
            due("5, 6: as told by '" + text + "'", told, v);
        }
    }

    private static void tellings() {
        BurstSkins x = Check.read("bent 2 33;fire 250 9;skin 4 150 12 400 201 50 3;turn 2;prick 7;simmer 70 30;");
        int[] told = {4, 150, 12, 400, 201, 50, 3, 2, 33, 4, 39};
        for (int i = 0; i < told.length; i++) {
            due("5: told(" + i + ")", x.told(i), told[i]);
        }
        int[] wrong = {-1, 11, MIN, MAX};
        for (int w : wrong) {
            due("5: told(" + w + ")", x.told(w), BAD);
        }
        int[][] doings = {{0, 250, 9}, {1, 2, 0}, {2, 7, 0}, {3, 70, 30}};
        for (int k = 0; k < 4; k++) {
            for (int i = 0; i < 3; i++) {
                due("6: doing(" + k + ", " + i + ")", x.doing(k, i), doings[k][i]);
            }
        }
        due("6: doing(4, 0)", x.doing(4, 0), BAD);
        due("6: doing(-1, 0)", x.doing(-1, 0), BAD);
        due("6: doing(0, 3)", x.doing(0, 3), BAD);
        due("6: doing(0, -1)", x.doing(0, -1), BAD);
        due("6: doing(greatest, 0)", x.doing(MAX, 0), BAD);
        due("6: doing of none", new BurstSkins().doing(0, 0), BAD);
    }

    private static void secondsOfFire() {
        BurstSkins x = new BurstSkins();
        int[][] wrong = {{-1, 1}, {301, 1}, {0, 0}, {0, 100}, {MIN, 1}, {1, MAX}};
        for (int[] w : wrong) {
            due("7: fire(" + w[0] + ", " + w[1] + ")", x.fire(w[0], w[1]), BAD);
        }
        due("7: nothing passed", x.now(4), 0);
        due("7: fire(0, 1)", x.fire(0, 1), 0);
        due("7: cut towards 0, below", x.face(0, 0), 15);
        due("7: the core of 4 faces, 5 less: by 24 none", x.now(1), 20);
        due("7: fire(300, 1)", x.fire(300, 1), 0);
        due("7: (300 - 15) by 4", x.face(0, 0), 86);
        due("7: (86 + 60 - 80) by 24", x.now(1), 22);
        due("7: fire(300, 1) once more", x.fire(300, 1), 0);
        due("7: (300 - 86) by 4", x.face(0, 0), 139);
        due("7: BROWN (139 - 120) by 10", x.face(0, 1), 1);
        due("7: STEAM", x.now(9), 39);
        due("7: WATER less by 39 by 20", x.now(2), 299);
        due("7: the core (139 + 60 - 88) by 24", x.now(1), 26);
        due("7: PRESS 10 and 39 by 2", x.now(7), 29);
        x.turn(1);
        x.fire(20, 1);
        due("7: the others cool by 119 by 16", x.face(0, 0), 132);
        due("7: the one down stays", x.face(1, 0), 20);
        due("7: fire(0, 99)", x.fire(0, 99), 0);
        due("7: it cools no more where that is cut to 0", x.face(1, 0), 3);
        x.turn(1);
        x.fire(20, 1);
        due("7: what is below 20 is warmer by 17 by 16", x.face(1, 0), 4);
        due("7: SECONDS", x.now(4), 104);
    }

    private static void secondsOfSimmering() {
        BurstSkins x = new BurstSkins();
        int[][] wrong = {{19, 1}, {101, 1}, {20, 0}, {20, 100}, {MAX, 1}, {50, MIN}};
        for (int[] w : wrong) {
            due("8: simmer(" + w[0] + ", " + w[1] + ")", x.simmer(w[0], w[1]), BAD);
        }
        due("8: nothing passed", x.now(4), 0);
        due("8: simmer(100, 1)", x.simmer(100, 1), 0);
        for (int f = 0; f < 4; f++) {
            due("8: each face", x.face(f, 0), 40);
        }
        due("8: the core (160 - 80) by 24", x.now(1), 23);
        due("8: simmer(20, 1)", x.simmer(20, 1), 0);
        due("8: cooler by 20 by 4", x.face(3, 0), 35);
        due("8: the core (140 - 92) by 24", x.now(1), 25);
        x.fire(300, 9);
        int brown = x.face(0, 1);
        int degrees = x.face(0, 0);
        x.simmer(100, 1);
        int after = degrees + (100 - degrees) / 4;
        due("8: browner by SIMMER, too", x.face(0, 1), brown + (after - 120) / 10);
        due("8: SPLIT", Check.read("skin 9 40 60 0 999 0 0;").simmer(20, 1), 1);
        due("8: POPPED", Check.read("skin 9 999 60 0 100 0 0;").simmer(20, 1), 2);
    }

    private static void goings() {
        BurstSkins just = Check.read("skin 4 80 20 0 40 0 0;");
        due("7: PULL that is not above what it holds, nor ENDS", just.fire(20, 1), 0);
        due("7: SPLIT comes ahead of POPPED", Check.read("skin 4 79 20 0 39 0 0;").fire(20, 1), 1);
        due("7: POPPED", Check.read("skin 4 80 20 0 39 0 0;").fire(20, 1), 2);
        due("7: along is cut", Check.read("skin 3 999 15 0 22 0 0;").fire(20, 1), 0);
        BurstSkins least = Check.read("skin 4 79 20 0 40 10 0;");
        least.spots(12);
        least.fire(20, 1);
        due("13: the least face of all that go", least.now(6), 0);
        BurstSkins thin = Check.read("skin 4 89 20 0 40 10 0;");
        thin.spots(12);
        due("7: it goes in a SECOND, not ahead of one", thin.now(5), 0);
        due("7: THIN SPOTS hold less", thin.fire(20, 1), 1);
        due("13: at the least face that goes", thin.now(6), 2);
        due("13: PRESS 0 from then on", thin.now(7), 0);
        due("13: PULL along 0", thin.now(8), 0);
        due("12: PULL round 0", thin.face(2, 3), 0);
        thin.spots(3);
        due("7: goes no more", thin.fire(300, 20), 1);
        due("13: where it went stays", thin.now(6), 2);
        check.isTrue("7: all else goes on", thin.face(0, 1) > 0 && thin.now(4) == 21);
        BurstSkins bent = Check.read("skin 4 80 20 0 40 0 0;bent 3 1;");
        due("12: the bend pulls at its face", bent.face(3, 3), 81);
        due("12: not at another", bent.face(2, 3), 80);
        bent.fire(20, 1);
        due("13: SPLIT at the bend", bent.now(6), 3);
        due("12: the bend's B stays", bent.face(3, 3), 1);
        BurstSkins popped = Check.read("skin 4 80 20 0 39 0 0;");
        popped.fire(20, 1);
        due("13: POPPED is at no face", popped.now(6), NONE);
    }

    private static void turnsPricksSpots() {
        BurstSkins x = new BurstSkins();
        due("9: turn(0)", x.turn(0), BAD);
        due("9: turn(4)", x.turn(4), BAD);
        due("9: turn(least)", x.turn(MIN), BAD);
        due("9: turn(3)", x.turn(3), 3);
        due("9: turn(2)", x.turn(2), 1);
        due("9: turn(3) again", x.turn(3), 0);
        due("9: turn(1)", x.turn(1), 1);
        due("9: no SECOND passes", x.now(4), 0);
        due("10: prick(0)", x.prick(0), BAD);
        due("10: prick(10)", x.prick(10), BAD);
        due("10: prick(greatest)", x.prick(MAX), BAD);
        due("10: prick(1)", x.prick(1), 1);
        due("10: PRESS is 5 less", x.now(7), 5);
        due("10: prick(9)", x.prick(9), 10);
        due("10: PRESS is 0 at least", x.now(7), 0);
        for (int i = 2; i <= 10; i++) {
            due("10: prick(9) more", x.prick(9), Math.min(99, 10 + 9 * (i - 1)));
        }
        due("10: 99 at most", x.prick(9), 99);
        due("11: spots(-1)", x.spots(-1), BAD);
        due("11: spots(16)", x.spots(16), BAD);
        due("11: spots(15)", x.spots(15), 0);
        due("11: spots(4)", x.spots(4), 15);
        due("12: one with a spot holds less", x.face(2, 2), 160);
        due("12: one without does not", x.face(1, 2), 200);
        due("11: spots(0)", x.spots(0), 4);
        BurstSkins dry = Check.read("skin 1 999 0 200 999 0 0;");
        dry.simmer(100, 60);
        check.isTrue("10: a core above 60", dry.now(1) > 60);
        dry.prick(8);
        dry.simmer(100, 1);
        due("10: WATER is less by 8 by 3", dry.now(2), 198);
        dry.simmer(20, 99);
        int cold = dry.now(2);
        dry.simmer(20, 9);
        due("10: not by a core of 60 or less", dry.now(2), cold);
    }

    private static void facesAndNow() {
        BurstSkins x = Check.read("skin 1 100 0 1 999 99 0;");
        int[][] wrong = {{-1, 0}, {4, 0}, {0, -1}, {0, 4}, {MIN, 0}, {0, MAX}};
        for (int[] w : wrong) {
            due("12: face(" + w[0] + ", " + w[1] + ")", x.face(w[0], w[1]), BAD);
        }
        due("13: now(-1)", x.now(-1), BAD);
        due("13: now(10)", x.now(10), BAD);
        due("13: now(greatest)", x.now(MAX), BAD);
        x.fire(300, 30);
        due("12: degrees", x.face(0, 0), 297);
        due("12: holds 100 less 147 by 2", x.face(0, 2), 27);
        x.spots(1);
        due("12: 1 at least", x.face(0, 2), 1);
        due("13: no WATER", x.now(2), 0);
        due("13: no STEAM without WATER", x.now(9), 0);
        for (int i = 0; i < 9; i++) {
            x.fire(300, 99);
        }
        due("12: BROWN is 999 at most", x.face(0, 1), 999);
        BurstSkins y = Check.read("skin 3 999 15 1 999 0 0;");
        y.fire(300, 2);
        due("13: the last WATER still steams, at 142 degrees", y.now(9), 42);
        due("13: and is gone", y.now(2), 0);
        y.fire(300, 1);
        due("13: then none does", y.now(9), 0);
        due("13: PULL along is cut", y.now(8), y.now(7) * 3 / 2);
    }

    private static void anewAndImages() {
        BurstSkins x = Check.read("skin 4 300 20 0 500 10 0;bent 1 9;turn 1;");
        due("30: keep(-1)", x.keep(-1), BAD);
        due("30: keep(2)", x.keep(2), BAD);
        due("31: back(-1)", x.back(-1), BAD);
        due("31: back(2)", x.back(2), BAD);
        due("31: back(0), none kept", x.back(0), STATE);
        x.fire(280, 7);
        x.turn(3);
        x.prick(4);
        x.spots(9);
        due("30: keep(0)", x.keep(0), 7);
        long[] kept = stateOf(x);
        due("31: the other is none", x.back(1), STATE);
        x.turn(2);
        x.fire(300, 99);
        x.prick(9);
        due("30: keep(1)", x.keep(1), 106);
        due("14: anew()", x.anew(), 106);
        long[] first = stateOf(Check.read("skin 4 300 20 0 500 10 0;bent 1 9;turn 1;"));
        same("14: as at first", x, first);
        due("14: anew() again", x.anew(), 0);
        due("14: THE PLAN stays", x.count(0), 1);
        due("31: back(0)", x.back(0), 7);
        same("31: all as the image has it", x, kept);
        x.fire(300, 50);
        due("31: back(0) again", x.back(0), 7);
        same("31: the image is not what NOW became", x, kept);
        due("31: back(1)", x.back(1), 106);
        due("31: pricks of it", x.now(3), 13);
        x.heat(2, 5);
        x.test(1, 1);
        x.mark(0, 0);
        x.back(0);
        due("31: HEATS are none of it", x.heat(2, 6), 5);
        due("31: nor TESTS", x.count(1), 1);
        due("31: nor THE TRACE", x.trace(), 1);
    }

    private static long[] stateOf(BurstSkins x) {
        long[] all = new long[27];
        for (int i = 0; i < 10; i++) {
            all[i] = x.now(i);
        }
        for (int i = 0; i < 16; i++) {
            all[10 + i] = x.face(i / 4, i % 4);
        }
        int set = x.spots(0);
        x.spots(set);
        all[26] = set;
        return all;
    }

    private static void same(String what, BurstSkins x, long[] want) {
        long[] got = stateOf(x);
        for (int i = 0; i < want.length; i++) {
            due(what + ", " + i, got[i], want[i]);
        }
    }

    private static void allOfRun(String text, int spots, int... want) {
        BurstSkins x = Check.read(text);
        x.fire(300, 3);
        for (int what = 0; what <= 10; what++) {
            due("15: run(" + spots + ", " + what + ") of '" + text + "'", x.run(spots, what), want[what]);
        }
        due("15: NOW is as it was", x.now(4), 3);
    }

    private static void runs() {
        allOfRun("", 0, NONE, 0, NONE, 0, 0, 20, 300, 0, NONE, NONE, NONE);
        allOfRun("turn 1;prick 9;", 15, NONE, 0, NONE, 0, 0, 20, 300, 0, NONE, NONE, NONE);
        // The face down: 20, 90, 142, 181; BROWN 2 and 6; STEAM 42 and 81: WATER less by 2 and 4.
        // THE CORE by 72: 20, 20, 21, 23; by 24: 20, 22, 26, 31.
        allOfRun("skin 9 999 0 300 999 0 0;fire 300 3;", 0, NONE, 0, NONE, 0, 8, 23, 294, 40, 3, 2, NONE);
        // PRESS 0 all along: the greatest is that of the first SECOND.
        allOfRun("skin 9 999 0 0 999 0 0;fire 20 3;", 0, NONE, 0, NONE, 0, 0, 20, 0, 0, 1, NONE, NONE);
        // SECOND 1: PRESS 10; 2: 31; 3: 50, when PULL round is above 120 less 15, as it is by 2 with a spot.
        allOfRun("skin 3 120 10 300 300 40 0;fire 300 3;", 2, 2, 1, 1, 0, 8, 31, 294, 31, 2, 2, 0);
        allOfRun("skin 3 120 10 300 300 40 0;fire 300 3;", 0, 3, 1, 0, 0, 8, 31, 294, 50, 3, 2, 1);
        allOfRun("skin 3 29 10 300 300 40 0;fire 300 3;", 0, 1, 1, 0, 0, 8, 31, 294, 10, 1, 2, NONE);
        allOfRun("skin 3 999 10 300 14 40 0;fire 300 3;", 0, 1, 2, NONE, 0, 8, 31, 294, 10, 1, 2, NONE);
        allOfRun("fire 100 9;turn 2;prick 1;simmer 20 1;", 0, NONE, 0, NONE, 0, 0, 29, 300, 10, 1, NONE, NONE);
        // Each face by itself: the one that is never down is not browner.
        for (int f = 0; f < 4; f++) {
            String others = f == 0 ? "turn 1;" : "fire 300 9;turn 1;";
            for (int g = 1; g < 4; g++) {
                others += g == f ? "turn 1;" : "fire 300 9;turn 1;";
            }
            BurstSkins one = Check.read("skin 1 999 0 0 999 0 0;" + others);
            due("15: the least BROWN is that of face " + f, one.run(0, 3), 0);
            BurstSkins alone = Check.read("skin 1 999 0 0 999 0 0;" + (f == 0 ? "" : "turn " + f + ";") + "fire 300 3;");
            due("15: the greatest BROWN is that of face " + f, alone.run(0, 4), 8);
        }
        BurstSkins x = new BurstSkins();
        int[][] wrong = {{-1, 0}, {16, 0}, {0, -1}, {0, 11}, {MIN, 0}, {0, MAX}};
        for (int[] w : wrong) {
            due("15: run(" + w[0] + ", " + w[1] + ")", x.run(w[0], w[1]), BAD);
        }
    }

    private static void oddsAndPricks() {
        due("16: no SECONDS", new BurstSkins().odds(), 0);
        due("16: surely", Check.read("skin 4 79 20 0 40 0 5;fire 20 1;").odds(), 10000);
        due("16: in no set", Check.read("skin 4 80 20 0 40 0 5;fire 20 1;").odds(), 0);
        due("16: by any spot: 10 000 less 8 by itself four times", Check.read("skin 4 80 20 0 40 1 2;fire 20 1;").odds(), 10000 - 8 * 8 * 8 * 8);
        due("16: CHANCE 0", Check.read("skin 4 80 20 0 40 1 0;fire 20 1;").odds(), 0);
        due("16: CHANCE 10", Check.read("skin 4 80 20 0 40 1 10;fire 20 1;").odds(), 10000);
        due("16: by one face alone", Check.read("skin 4 85 20 0 40 10 3;bent 2 5;fire 20 1;").odds(), 10000 - 7 * 7 * 7 * 7);
        due("16: by the bend's face alone", Check.read("skin 4 90 20 0 40 10 3;bent 2 5;fire 20 1;").odds(), 3000);
        due("17: none needed", new BurstSkins().pricks(0), 0);
        due("17: WATER", new BurstSkins().pricks(1), 300);
        due("17: pricks(-1)", new BurstSkins().pricks(-1), BAD);
        due("17: pricks(2)", new BurstSkins().pricks(2), BAD);
        BurstSkins x = Check.read("skin 4 80 30 99 40 1 0;fire 20 1;");
        due("17: as few as hold with a THIN spot: 30 less 15, not 30 less 10", x.pricks(0), 3);
        due("17: WATER of it", x.pricks(1), 99);
        due("17: nine at most", Check.read("skin 4 1 50 99 40 0 0;fire 20 1;").pricks(0), NONE);
        due("17: NONE of WATER", Check.read("skin 4 1 50 99 40 0 0;fire 20 1;").pricks(1), NONE);
        due("17: nine do", Check.read("skin 4 1 45 99 40 0 0;fire 20 1;").pricks(0), 9);
        BurstSkins hot = Check.read("skin 1 16 15 99 40 0 0;simmer 100 99;");
        due("17: a hot core dries by the pricks", hot.pricks(0), 3);
        int above = 0;
        BurstSkins y = Check.read("skin 1 999 0 99 999 0 0;");
        for (int i = 0; i < 99; i++) {
            y.simmer(100, 1);
            above += y.now(1) > 60 ? 1 : 0;
        }
        check.isTrue("17: it gets above 60", above > 50 && above < 99);
        due("17: WATER less 1 in each such SECOND", hot.pricks(1), 99 - above);
    }

    private static void simmerings() {
        BurstSkins x = new BurstSkins();
        due("18: simmered(-1)", x.simmered(-1), BAD);
        due("18: simmered(2)", x.simmered(2), BAD);
        due("18: any degrees do: the least", x.simmered(0), 60);
        due("18: the greatest", x.simmered(1), 100);
        BurstSkins tight = Check.read("skin 4 64 10 99 999 4 0;");
        int greatest = NONE;
        for (int t = 60; t <= 100; t++) {
            tight.anew();
            tight.spots(1);
            if (tight.simmer(t, 60) == 0) {
                greatest = t;
            }
        }
        check.isTrue("18: not all do", greatest > 60 && greatest < 100);
        due("18: without a PLAN, the least", tight.simmered(0), 60);
        due("18: without a PLAN, the greatest", tight.simmered(1), greatest);
        for (int radius = 1; radius <= 9; radius++) {
            for (int skin = 10 * radius; skin <= 25 * radius; skin++) {
                simmeredAsNow(radius, skin);
            }
        }
        BurstSkins none = Check.read("skin 4 1 10 99 999 0 0;");
        due("18: none, the least", none.simmered(0), NONE);
        due("18: none, the greatest", none.simmered(1), NONE);
        BurstSkins goesOn = Check.read("skin 4 60 10 99 999 0 0;simmer 100 99;");
        due("18: THE PLAN follows", goesOn.simmered(0), NONE);
    }

    /** Without a PLAN it is what 60 SECONDS of simmer() do NOW. */
    private static void simmeredAsNow(int radius, int skin) {
        BurstSkins x = Check.read("skin " + radius + " " + skin + " 10 99 999 0 0;");
        int least = NONE;
        int greatest = NONE;
        for (int t = 60; t <= 100; t++) {
            x.anew();
            if (x.simmer(t, 60) == 0) {
                least = least == NONE ? t : least;
                greatest = t;
            }
        }
        due("18: RADIUS " + radius + ", SKIN " + skin + ", the least", x.simmered(0), least);
        due("18: RADIUS " + radius + ", SKIN " + skin + ", the greatest", x.simmered(1), greatest);
    }

    private static void plannings() {
        BurstSkins x = new BurstSkins();
        int[][] wrong = {{7, 0, 0}, {241, 0, 0}, {8, -1, 0}, {8, 16, 0}, {8, 0, -1}, {8, 0, 3}, {MIN, 0, 0}, {8, MAX, 0}};
        for (int[] w : wrong) {
            due("19: planned(" + w[0] + ", " + w[1] + ", " + w[2] + ")", x.planned(w[0], w[1], w[2]), BAD);
        }
        due("19: all alike: BROWN", x.planned(8, 0, 0), 0);
        due("19: the least h", x.planned(8, 0, 1), 80);
        due("19: the most often", x.planned(8, 0, 2), 5);
        BurstSkins never = Check.read("skin 4 1 10 99 999 0 0;fire 20 1;");
        for (int what = 0; what <= 2; what++) {
            due("19: none", never.planned(240, 0, what), NONE);
        }
        BurstSkins hard = Check.read("skin 1 999 0 0 999 0 0;");
        int most = 0;
        int often = 0;
        for (int each = 40; each >= 5; each -= 5) {
            int least = leastBrownBy(hard, each);
            most = Math.max(most, least);
            often = least == most ? each : often;
        }
        check.isTrue("19: is brown", most > 0);
        due("19: hard enough for any fire: the hottest", hard.planned(43, 15, 1), 260);
        due("19: each", hard.planned(43, 15, 2), often);
        due("19: the least BROWN", hard.planned(43, 15, 0), most);
        BurstSkins thin = Check.read("skin 3 200 10 300 300 120 0;");
        check.isTrue("19: THIN SPOTS ask for less heat", thin.planned(60, 15, 1) < thin.planned(60, 0, 1));
    }

    /** By 43 SECONDS of the hottest fire. */
    private static int leastBrownBy(BurstSkins x, int each) {
        x.anew();
        for (int left = 43; left > 0; left -= each) {
            x.fire(260, Math.min(each, left));
            x.turn(1);
        }
        return Math.min(Math.min(x.face(0, 1), x.face(1, 1)), Math.min(x.face(2, 1), x.face(3, 1)));
    }

    private static void pans() {
        BurstSkins x = new BurstSkins();
        int[][] wrong = {{-1, 0}, {4, 0}, {0, -1}, {0, 100}, {MAX, 0}, {0, MIN}};
        for (int[] w : wrong) {
            due("20: heat(" + w[0] + ", " + w[1] + ")", x.heat(w[0], w[1]), BAD);
        }
        int[][] bad = {{0, 0}, {4, 0}, {1, -1}, {1, 2}, {MIN, 0}};
        for (int[] w : bad) {
            due("21: even(" + w[0] + ", " + w[1] + ")", x.even(w[0], w[1]), BAD);
        }
        due("21: even(1, 0)", x.even(1, 0), 40);
        due("21: even(1, 1)", x.even(1, 1), 0);
        // 40 and 90 for each: order 7 is 1 0 3 2, the first that has a middle for each that had none.
        due("21: even(2, 0)", x.even(2, 0), 130);
        due("21: even(2, 1)", x.even(2, 1), 7);
        due("21: even(3, 0)", x.even(3, 0), 170);
        due("21: even(3, 1): the orders 0, 0, 7", x.even(3, 1), 7);
        due("20: heat(3, 99)", x.heat(3, 99), 40);
        due("20: heat(3, 0)", x.heat(3, 0), 99);
        due("21: even(1, 0), a cold cell", x.even(1, 0), 0);
        for (int c = 0; c < 4; c++) {
            x.heat(c, 5);
        }
        due("21: all alike, the most", x.even(3, 0), 15);
        due("21: all alike, the first row", x.even(3, 1), 0);
        for (int c = 0; c < 4; c++) {
            x.heat(c, 0);
        }
        due("21: all cold, the most", x.even(2, 0), 0);
        due("21: all cold, the first row", x.even(2, 1), 0);
    }

    private static void causes() {
        BurstSkins x = Check.read("skin 4 100 20 0 999 30 0;fire 20 3;");
        int[][] wrong = {{0, 0, 0}, {1000, 0, 0}, {1, -1, 0}, {1, 4, 0}, {1, 0, -1}, {1, 0, 5}, {MIN, 0, 0}, {1, MAX, 0}};
        for (int[] w : wrong) {
            due("22: began(" + w[0] + ", " + w[1] + ", " + w[2] + ")", x.began(w[0], w[1], w[2]), BAD);
            due("23: why(" + w[0] + ", " + w[1] + ", " + w[2] + ", 0)", x.why(w[0], w[1], w[2], 0), BAD);
        }
        due("23: why, what -1", x.why(1, 0, 0, -1), BAD);
        due("23: why, what 2", x.why(1, 0, 0, 2), BAD);
        due("23: BAD ahead of STATE", x.why(999, 0, 0, 2), BAD);
        // It holds 100, is pulled by 80: a spot (70), FULL 28 and more (8 of 9), SKIN 70 and less (7 of 9).
        int[] ofNine = {0, 9, 8, 0, 7};
        int[][] odds = {{0, 1}, {3, 8}, {1, 3}, {0, 1}, {7, 24}};
        for (int c = 0; c < 5; c++) {
            due("22: began(1, 0, " + c + ")", x.began(1, 0, c), ofNine[c]);
            due("22: began(2, 0, " + c + ")", x.began(2, 0, c), 0);
            due("23: upper of " + c, x.why(1, 0, c, 0), odds[c][0]);
            due("23: lower of " + c, x.why(1, 0, c, 1), odds[c][1]);
        }
        due("22: a spot at another face", x.began(1, 3, 1), 9);
        due("22: FULL splits at face 0, not there", x.began(1, 3, 2), 0);
        due("23: there it is the spot alone", x.why(1, 3, 1, 1), 1);
        due("23: none at that SECOND", x.why(2, 0, 1, 0), STATE);
        due("23: none at 999", x.why(999, 0, 1, 1), STATE);
        BurstSkins none = Check.read("skin 4 79 20 0 999 30 0;fire 20 3;");
        due("22: by no CAUSE", none.began(1, 0, 0), 9);
        due("22: by a spot all the same", none.began(1, 0, 1), 9);
        due("22: SKIN is 1 at least", Check.read("skin 4 5 0 0 999 0 0;fire 20 1;").began(1, 0, 4), 0);
        BurstSkins popped = Check.read("skin 4 999 20 0 39 0 0;fire 20 3;");
        due("22: POPPED is not at a face", popped.began(1, 0, 0), 0);
        BurstSkins fires = Check.read("skin 1 999 0 999 999 0 0;fire 150 3;");
        due("22: hotter, all hold", fires.began(3, 0, 3), 0);
        // FIRE 300 is no hotter; its third SECOND has PRESS 50.
        BurstSkins hottest = Check.read("skin 3 134 10 300 300 0 0;fire 300 3;");
        due("22: 300 at most", hottest.began(3, 0, 3), hottest.began(3, 0, 0));
        due("22: that is in all", hottest.began(3, 0, 3), 9);
        hotFires();
        // 99 at most: 99 times 4 is 396.
        due("22: FULL is 99 at most", Check.read("skin 4 396 98 0 999 0 0;fire 20 1;").began(1, 0, 2), 0);
        due("22: and goes as 99", Check.read("skin 4 395 98 0 999 0 0;fire 20 1;").began(1, 0, 2), 9);
        due("22: SIMMER is no hotter", Check.read("skin 1 2 0 999 999 0 0;simmer 40 99;").began(99, 0, 3), 0);
    }

    /** FIRE 295 is 300 by each of the nine, not more: SKIN as strong as that asks for goes in none. */
    private static void hotFires() {
        BurstSkins x = Check.read("skin 1 999 0 999 999 0 0;");
        int asked = 0;
        int when = 0;
        for (int s = 1; s <= 60; s++) {
            x.fire(300, 1);
            int needs = x.face(0, 3) + 999 - x.face(0, 2);
            when = needs > asked ? s : when;
            asked = Math.max(asked, needs);
        }
        BurstSkins strong = Check.read("skin 1 " + asked + " 0 999 999 0 0;fire 295 60;");
        for (int t = 1; t <= 60; t++) {
            due("22: 300 at most, SECOND " + t, strong.began(t, 0, 3), 0);
        }
        BurstSkins weak = Check.read("skin 1 " + (asked - 1) + " 0 999 999 0 0;fire 295 60;");
        due("22: by 300", weak.began(when, 0, 3), 9);
        due("22: by 295 it stays whole", weak.run(0, 0), NONE);
        due("23: hotter fires alone", weak.why(when, 0, 3, 1), 1);
    }

    private static void dryOnes() {
        BurstSkins x = new BurstSkins();
        int[][] wrong = {{0, 0, 0, 0}, {10000, 0, 0, 0}, {5, -1, 0, 0}, {5, 6, 0, 0}, {5, 0, -1, 0}, {5, 0, 10, 0},
            {5, 0, 0, -1}, {MIN, 0, 0, 0}, {5, MAX, 0, 0}};
        for (int[] w : wrong) {
            due("24: dried", x.dried(w[0], w[1], w[2], w[3]), BAD);
            due("25: days", x.days(w[0], w[1], w[2], w[3]), BAD);
        }
        due("24: 201 days", x.dried(5, 0, 0, 201), BAD);
        due("25: x beyond", x.days(5, 0, 0, 10000), BAD);
        due("24: day 0", x.dried(100, 0, 0, 0), 100);
        due("24: by 10", x.dried(100, 0, 0, 1), 90);
        due("24: by 10 again", x.dried(100, 0, 0, 2), 81);
        // The first loss, 10, is above 100 by 50: HARD is 5.
        due("24: HARD", x.dried(100, 0, 5, 2), 84);
        due("24: HARD more", x.dried(100, 0, 5, 3), 80);
        // 80 by 20 is 4: 76 by 25 is 3: 73 by 30 is 2, not above 2: 71 by 30 is 2.
        due("24: HARD no more", x.dried(100, 0, 5, 7), 100 - 10 - 6 - 4 - 3 - 2 - 2 - 2);
        due("24: nothing but dry", x.dried(9999, 9999, 9, 200), 9999);
        due("25: at once", x.days(100, 0, 0, 100), 0);
        due("25: in a day", x.days(100, 0, 0, 99), 1);
        due("25: just then", x.days(100, 0, 0, 81), 2);
        due("25: with HARD", x.days(100, 0, 5, 81), 3);
        due("25: never", x.days(100, 50, 0, 50), NONE);
        due("25: down to 59", x.days(100, 50, 0, 59), lastDay(x, 59));
        due("25: 200 days at most", x.days(9999, 0, 9, x.dried(9999, 0, 9, 200)), firstDay(x));
        due("25: not later", x.days(9999, 0, 9, x.dried(9999, 0, 9, 200) - 1), NONE);
    }

    private static int lastDay(BurstSkins x, int to) {
        int day = 0;
        while (day < 200 && x.dried(100, 50, 0, day) > to) {
            day++;
        }
        return day;
    }

    private static int firstDay(BurstSkins x) {
        int day = 200;
        while (day > 0 && x.dried(9999, 0, 9, day - 1) == x.dried(9999, 0, 9, 200)) {
            day--;
        }
        return day;
    }

    private static void testsAndTubes() {
        BurstSkins x = new BurstSkins();
        int[][] wrong = {{-1, 0}, {31, 0}, {0, -1}, {0, 1000}, {MAX, 0}, {0, MIN}};
        for (int[] w : wrong) {
            due("26: test(" + w[0] + ", " + w[1] + ")", x.test(w[0], w[1]), BAD);
        }
        due("27: none holds", x.holds(0), NONE);
        due("27: none with more", x.holds(1), NONE);
        due("27: they agree", x.holds(2), 1);
        due("26: test(9, 101)", x.test(9, 101), 1);
        due("27: more alone", x.holds(1), 9);
        due("27: no least", x.holds(0), NONE);
        due("27: agrees", x.holds(2), 1);
        due("26: test(10, 100)", x.test(10, 100), 2);
        due("27: the least", x.holds(0), 10);
        due("27: 9 is below 10", x.holds(2), 1);
        due("26: test(10, 999)", x.test(10, 999), 3);
        due("27: 10 is not below 10", x.holds(2), 0);
        due("26: test(0, 0)", x.test(0, 0), 4);
        due("27: the least is 0", x.holds(0), 0);
        due("26: test(30, 500)", x.test(30, 500), 5);
        due("27: the greatest is 30", x.holds(1), 30);
        for (int i = 6; i <= 20; i++) {
            due("26: test " + i, x.test(15, 100), i);
        }
        due("26: FULL", x.test(15, 100), FULL);
        due("26: BAD ahead of FULL", x.test(31, 100), BAD);
        due("27: holds(-1)", x.holds(-1), BAD);
        due("27: holds(3)", x.holds(3), BAD);
        int[][] tubes = {{0, 1, 0}, {100, 1, 0}, {1, 0, 0}, {1, 1000, 0}, {1, 1, -1}, {1, 1, 2}, {MIN, 1, 0}, {1, MAX, 0}};
        for (int[] w : tubes) {
            due("28: tube(" + w[0] + ", " + w[1] + ", " + w[2] + ")", x.tube(w[0], w[1], w[2]), BAD);
        }
        due("28: round", x.tube(4, 11, 0), 2);
        due("28: along, not twice what is rounded", x.tube(4, 11, 1), 5);
        due("28: thick", x.tube(99, 999, 0), 10);
        due("28: thick, along", x.tube(99, 999, 1), 20);
    }

    private static void marks() {
        BurstSkins x = Check.read("skin 3 999 10 300 999 0 0;");
        x.fire(300, 3);
        // The face down: 181 degrees, BROWN 8, PRESS 50; the core 31, WATER 294.
        int[] due = {181, 189, 131, 262, 158, 475};
        long[] comes = {1, 11, 101, 1101, 10011, 100001};
        long trace = 0;
        for (int kind = 0; kind <= 5; kind++) {
            due("29: mark(" + kind + ", 0)", x.mark(kind, 0), due[kind]);
            trace += comes[kind];
            due("33: trace()", x.trace(), trace);
        }
        due("29: another face", x.mark(0, 2), 20);
        trace++;
        int[][] wrong = {{-1, 0}, {6, 0}, {0, -1}, {0, 4}, {MIN, 0}, {0, MAX}};
        for (int[] w : wrong) {
            due("29: mark(" + w[0] + ", " + w[1] + ")", x.mark(w[0], w[1]), NO);
        }
        due("33: BAD leaves none", x.trace(), trace);
        x.anew();
        due("33: anew leaves it", x.trace(), trace);
        due("29: below 0", x.mark(4, 0), 0);
        BurstSkins full = Check.read("skin 3 999 99 300 999 0 0;");
        due("29: SPLIT below 0", full.mark(2, 0), 20 - 99);
        due("29: CURLED below 0", full.mark(3, 0), -158);
    }

    private static void counts() {
        BurstSkins x = Check.read("turn 1;fire 1 1;");
        x.test(1, 1);
        Check.typed(x, "abc");
        due("32: DOINGS", x.count(0), 2);
        due("32: TESTS", x.count(1), 1);
        due("32: bytes", x.count(2), 3);
        due("32: count(-1)", x.count(-1), BAD);
        due("32: count(3)", x.count(3), BAD);
        due("32: count(least)", x.count(MIN), BAD);
    }
}
