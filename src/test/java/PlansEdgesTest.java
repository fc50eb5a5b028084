/** THE PLAN, run: by hand, or beside what the same SECONDS do NOW, each in an object of its own. */
public final class PlansEdgesTest {
    private static final int NONE = -9;
    private static final Check check = new Check("PlansEdgesTest");

    // By the first two 60 degrees alone do, by the others 100 alone: hot ones dry out by the pricks.
    private static final String[] ONE_ALONE = {
        "skin 3 102 22 14 999 0 0;prick 8;fire 243 4;",
        "skin 7 206 28 29 999 0 0;fire 112 3;turn 1;fire 82 3;",
        "skin 1 72 25 54 999 0 0;prick 9;fire 58 39;turn 1;fire 280 16;",
        "skin 6 230 4 9 999 0 0;prick 2;fire 142 7;turn 1;fire 274 16;"};

    public static void main(String[] args) {
        noSeconds();
        hiss();
        ahead();
        greatestPress();
        firstAndLastSecond();
        turnsOfThePlan();
        pricksOfThePlan();
        twelveDoings();
        whereBySpots();
        odds();
        pricksByFull();
        pricksAhead();
        simmered();
        plannedByHand();
        planned();
        check.end();
    }

    private static void due(String call, long got, long want) {
        check.due(call, got, want);
    }

    private static void dueRun(String text, int spots, int what, int want) {
        due("15: run(" + spots + ", " + what + ") of '" + text + "'", Check.read(text).run(spots, what), want);
    }

    private static void noSeconds() {
        String[] plans = {"", "turn 1;", "prick 9;", "turn 3;prick 1;turn 2;", "prick 9;".repeat(12)};
        int[] want = {NONE, 0, NONE, 0, 0, 20, 77, 0, NONE, NONE, NONE};
        for (String plan : plans) {
            // So weak that a SECOND would do.
            String text = "skin 9 1 99 77 1 1 10;bent 1 9;" + plan;
            for (int what = 0; what <= 10; what++) {
                dueRun(text, 0, what, want[what]);
                dueRun(text, 15, what, want[what]);
            }
            BurstSkins x = Check.read(text);
            due("16: no SECONDS", x.odds(), 0);
            due("17: no SECONDS", x.pricks(0), 0);
            due("17: WATER, no SECONDS", x.pricks(1), 77);
            due("22: no SECONDS", x.began(1, 0, 2), 0);
        }
        dueRun("skin 9 1 99 77 1 1 10;prick 1;fire 20 1;", 0, 0, 1);
        // Nothing is left of a PLAN that had SECONDS.
        BurstSkins x = Check.read("skin 3 29 10 300 999 0 0;fire 300 3;");
        due("15: it goes", x.run(0, 7) * 10 + x.run(0, 0), 101);
        Check.typed(x, "skin 9 1 99 77 1 1 10;prick 1;");
        due("4: another text", x.sausage(), 2);
        for (int what = 0; what <= 10; what++) {
            due("15: run(0, " + what + ") without SECONDS then", x.run(0, what), want[what]);
        }
    }

    private static void hiss() {
        String strong = "skin 9 999 0 300 999 0 0;";
        dueRun(strong + "fire 300 1;fire 130 1;fire 80 9;", 0, 9, NONE);
        dueRun(strong + "fire 300 1;fire 134 9;", 0, 9, 2);
        dueRun(strong + "fire 300 1;fire 130 1;fire 134 9;", 0, 9, 3);
        dueRun(strong + "fire 20 7;fire 300 2;", 0, 9, 9);
        dueRun(strong + "fire 20 7;fire 300 9;fire 20 9;fire 300 9;", 0, 9, 9);
        dueRun(strong + "simmer 100 99;", 0, 9, NONE);
        dueRun("skin 9 999 0 0 999 0 0;fire 300 99;", 0, 9, NONE);
        dueRun("skin 9 999 0 1 999 0 0;fire 300 99;", 0, 9, 2);
        // It goes on hissing when it has gone, and may begin to.
        dueRun("skin 4 79 20 300 999 0 0;fire 20 1;fire 300 2;", 0, 9, 3);
    }

    private static void ahead() {
        String plan = "fire 300 3;";
        // PRESS 10, 31, 50 in the three SECONDS, STEAM from the second on.
        int[][] skinWhenAhead = {{29, 1, NONE}, {30, 2, 0}, {92, 2, 0}, {93, 3, 1}, {149, 3, 1}, {164, 3, 1}, {165, NONE, NONE}};
        for (int[] s : skinWhenAhead) {
            String text = "skin 3 " + s[0] + " 10 300 999 0 0;" + plan;
            dueRun(text, 0, 0, s[1]);
            dueRun(text, 0, 10, s[2]);
            dueRun(text, 0, 9, 2);
        }
        dueRun("skin 4 79 20 0 999 0 0;fire 20 3;", 0, 10, NONE);
        dueRun("skin 4 79 20 300 999 0 0;fire 20 3;", 0, 10, NONE);
        dueRun("skin 9 999 0 0 999 0 0;fire 20 3;", 0, 10, NONE);
        // POPPED, too: PULL along 15, 46, 75.
        int[][] endsWhenAhead = {{14, 1, NONE}, {15, 2, 0}, {45, 2, 0}, {46, 3, 1}, {74, 3, 1}, {75, NONE, NONE}};
        for (int[] e : endsWhenAhead) {
            String text = "skin 3 999 10 300 " + e[0] + " 0 0;" + plan;
            dueRun(text, 0, 0, e[1]);
            dueRun(text, 0, 1, e[1] == NONE ? 0 : 2);
            dueRun(text, 0, 2, NONE);
            dueRun(text, 0, 10, e[2]);
        }
    }

    private static void dueGreatest(String text, int press, int second) {
        dueRun(text, 0, 7, press);
        dueRun(text, 0, 8, second);
    }

    private static void greatestPress() {
        dueGreatest("skin 3 999 10 300 999 0 0;fire 300 3;", 50, 3);
        dueGreatest("skin 3 999 10 300 999 0 0;fire 300 3;prick 4;fire 300 1;", 50, 3);
        dueGreatest("skin 3 999 10 300 999 0 0;fire 300 3;fire 20 9;", 50, 3);
        dueGreatest("skin 3 999 10 0 999 0 0;fire 20 9;", 10, 1);
        dueGreatest("skin 3 999 10 0 999 0 0;prick 1;fire 20 9;", 5, 1);
        dueGreatest("skin 3 999 10 0 999 0 0;fire 20 2;prick 2;fire 20 9;", 10, 1);
        dueGreatest("skin 3 999 1 0 999 0 0;prick 9;fire 20 9;", 0, 1);
        // That by which it goes, and none from then on.
        dueGreatest("skin 3 149 10 300 999 0 0;fire 300 9;", 50, 3);
        dueGreatest("skin 3 92 10 300 999 0 0;fire 300 9;", 31, 2);
        dueGreatest("skin 3 29 10 300 999 0 0;fire 300 9;", 10, 1);
        dueGreatest("skin 3 999 10 300 74 0 0;fire 300 9;", 50, 3);
        dueGreatest("skin 9 999 99 0 999 0 0;fire 20 1;", 99, 1);
    }

    private static void firstAndLastSecond() {
        dueRun("skin 4 79 20 0 999 0 0;fire 20 99;", 0, 0, 1);
        dueRun("skin 4 79 20 0 999 0 0;turn 1;fire 20 99;", 0, 0, 1);
        String cold = "simmer 20 99;".repeat(11);
        dueRun("skin 3 149 10 300 999 0 0;" + cold + "fire 300 3;", 0, 0, 1092);
        dueRun("skin 3 149 10 300 999 0 0;" + cold + "fire 300 2;", 0, 0, NONE);
        dueRun("skin 3 999 10 300 999 0 0;" + cold + "fire 300 99;", 0, 9, 1091);
        dueRun("skin 3 149 10 300 999 0 0;" + cold + "fire 300 3;", 0, 10, 1);
    }

    private static void turnsOfThePlan() {
        // 150 is what the cold ones hold, 135 the hot one.
        String text = "skin 3 150 10 300 999 0 0;";
        dueRun(text + "fire 300 3;", 0, 2, 0);
        for (int k = 1; k <= 3; k++) {
            dueRun(text + "turn " + k + ";fire 300 3;", 0, 2, k);
            dueRun(text + "turn 3;turn " + k + ";fire 300 3;", 0, 2, (3 + k) % 4);
            dueRun(text + "turn " + k + ";fire 300 3;", 0, 4, 8);
            dueRun(text + "turn " + k + ";fire 300 3;", 0, 3, 0);
        }
        dueRun("skin 9 999 0 0 999 0 0;fire 300 2;turn 1;fire 300 2;turn 1;fire 300 2;turn 1;fire 300 2;", 0, 3, 2);
        dueRun("skin 9 999 0 0 999 0 0;fire 300 2;turn 1;fire 300 2;turn 2;fire 300 2;", 0, 3, 0);
        for (int k = 1; k <= 3; k++) {
            BurstSkins x = Check.read("turn " + k + ";");
            x.run(0, 0);
            due("15: NOW is not turned by it", x.now(0), 0);
        }
    }

    private static void pricksOfThePlan() {
        for (int p = 1; p <= 9; p++) {
            dueRun("skin 1 999 50 0 999 0 0;prick " + p + ";fire 20 1;", 0, 7, 50 - 5 * p);
            dueRun("skin 1 999 99 0 999 0 0;prick 1;prick " + p + ";fire 20 1;", 0, 7, 94 - 5 * p);
        }
        dueRun("skin 1 49 50 0 999 0 0;prick 1;fire 20 1;", 0, 0, NONE);
        dueRun("skin 1 49 50 0 999 0 0;fire 20 1;prick 1;fire 20 1;", 0, 0, 1);
        // 99 PRICKS: 33 less in the SECOND in which THE CORE is above 60, all of 40 in the next.
        String much = "skin 1 999 0 40 999 0 0;simmer 64 99;" + "prick 9;".repeat(10);
        dueRun(much + "simmer 65 1;", 0, 6, 10);
        dueRun(much + "simmer 65 2;", 0, 6, 0);
        dueRun(much + "simmer 64 9;", 0, 6, 40);
    }

    private static void twelveDoings() {
        // Each DOING is run, the last too: each of the twelve is the one that is hot.
        for (int hot = 0; hot < 12; hot++) {
            String text = "skin 9 999 0 0 999 0 0;" + "simmer 20 2;".repeat(hot) + "fire 300 2;" + "simmer 20 2;".repeat(11 - hot);
            BurstSkins x = Check.read(text);
            check.isTrue("15: DOING " + hot + " is run", x.run(0, 4) >= 2);
            due("5: SECONDS", x.told(10), 24);
        }
        dueRun("skin 9 999 0 0 999 0 0;" + "simmer 20 2;".repeat(12), 0, 4, 0);
        dueRun("skin 1 999 0 0 999 0 0;simmer 100 99;", 0, 5, 96);
        dueRun("skin 1 999 0 0 999 0 0;simmer 100 99;simmer 64 99;", 0, 5, 68);
    }

    private static void whereBySpots() {
        for (int set = 0; set <= 15; set++) {
            String text = "skin 4 89 20 0 999 10 5;fire 20 2;";
            dueRun(text, set, 0, set == 0 ? NONE : 1);
            dueRun(text, set, 1, set == 0 ? 0 : 1);
            dueRun(text, set, 2, set == 0 ? NONE : Integer.numberOfTrailingZeros(set));
        }
    }

    private static int power(int base, int times) {
        int product = 1;
        for (int i = 0; i < times; i++) {
            product *= base;
        }
        return product;
    }

    private static void odds() {
        for (int c = 0; c <= 10; c++) {
            due("16: by any spot, CHANCE " + c, Check.read("skin 4 89 20 0 999 10 " + c + ";fire 20 2;").odds(),
                10000 - power(10 - c, 4));
            due("16: by the hot face's alone, CHANCE " + c,
                Check.read("skin 3 170 10 300 999 10 " + c + ";fire 300 3;").odds(), 1000 * c);
            due("16: by one that turns down, CHANCE " + c,
                Check.read("skin 3 170 10 300 999 10 " + c + ";turn 2;fire 300 3;").odds(), 1000 * c);
            due("16: none needed, CHANCE " + c, Check.read("skin 4 79 20 0 999 10 " + c + ";fire 20 2;").odds(), 10000);
            due("16: POPPED, CHANCE " + c, Check.read("skin 4 999 20 0 39 10 " + c + ";fire 20 2;").odds(), 10000);
            due("16: never, CHANCE " + c, Check.read("skin 4 90 20 0 999 10 " + c + ";fire 20 2;").odds(), 0);
        }
        // In the latest SECOND alone.
        due("16: in the last SECOND", Check.read("skin 3 149 10 300 999 0 0;fire 300 3;").odds(), 10000);
        due("16: not so long", Check.read("skin 3 149 10 300 999 0 0;fire 300 2;").odds(), 0);
    }

    private static void pricksByFull() {
        int[][] fullAndPricks = {{0, 0}, {1, 1}, {5, 1}, {6, 2}, {40, 8}, {41, 9}, {45, 9}, {46, NONE}, {99, NONE}};
        for (int[] p : fullAndPricks) {
            BurstSkins x = Check.read("skin 4 1 " + p[0] + " 99 40 0 0;fire 20 1;");
            due("17: FULL " + p[0], x.pricks(0), p[1]);
            due("17: WATER, FULL " + p[0], x.pricks(1), p[1] == NONE ? NONE : 99);
            // With spots it holds as little.
            BurstSkins thin = Check.read("skin 4 500 " + p[0] + " 99 999 999 0;fire 20 1;");
            due("17: by the set of all, FULL " + p[0], thin.pricks(0), p[1]);
        }
        due("17: THE PLAN's own come behind", Check.read("skin 4 1 25 99 999 0 0;prick 3;fire 20 1;").pricks(0), 2);
        due("17: too late", Check.read("skin 4 1 25 99 999 0 0;fire 20 1;prick 3;").pricks(0), 5);
        due("17: by the bend: never", Check.read("skin 1 9 0 99 999 0 0;bent 2 10;fire 20 1;").pricks(0), NONE);
        due("17: POPPED, too", Check.read("skin 4 999 20 99 39 0 0;fire 20 1;").pricks(0), 1);
    }

    /** In an object of its own: THE PLAN by hand behind PRICKS and 60 SECONDS of water. WATER then, or NONE. */
    private static int waterIfWhole(String text, int spots, int pricks, int simmer) {
        BurstSkins x = Check.read(text);
        x.spots(spots);
        if (pricks > 0) {
            x.prick(pricks);
        }
        if (simmer > 0) {
            x.simmer(simmer, 60);
        }
        for (int k = 0; k < x.count(0); k++) {
            int first = x.doing(k, 1);
            switch (x.doing(k, 0)) {
                case 0 -> x.fire(first, x.doing(k, 2));
                case 1 -> x.turn(first);
                case 2 -> x.prick(first);
                default -> x.simmer(first, x.doing(k, 2));
            }
        }
        return x.now(5) == 0 ? x.now(2) : NONE;
    }

    private static boolean staysWholeInAll(String text, int pricks, int simmer) {
        for (int set = 0; set <= 15; set++) {
            if (waterIfWhole(text, set, pricks, simmer) == NONE) {
                return false;
            }
        }
        return true;
    }

    private static void pricksAhead() {
        String[] texts = {"skin 1 20 21 60 999 3 2;simmer 90 30;", "skin 3 150 25 300 999 40 2;fire 200 30;",
            "skin 2 60 20 99 999 9 5;simmer 99 40;prick 2;fire 200 9;", "skin 5 200 30 400 150 20 1;simmer 95 60;",
            "skin 4 150 12 400 200 50 3;bent 1 40;simmer 70 30;fire 200 20;", "skin 1 30 9 30 999 2 2;prick 2;simmer 100 99;",
            "skin 1 33 29 99 999 0 0;simmer 100 20;", "skin 2 150 20 200 90 9 5;fire 260 9;turn 1;fire 260 9;",
            "skin 9 300 40 9 999 0 0;fire 160 30;turn 2;fire 160 30;"};
        for (String text : texts) {
            int least = 0;
            while (least <= 9 && !staysWholeInAll(text, least, 0)) {
                least++;
            }
            BurstSkins x = Check.read(text);
            due("17: '" + text + "'", x.pricks(0), least > 9 ? NONE : least);
            due("17: WATER of '" + text + "'", x.pricks(1), least > 9 ? NONE : waterIfWhole(text, 0, least, 0));
        }
    }

    private static void simmered() {
        for (int i = 0; i < ONE_ALONE.length; i++) {
            BurstSkins x = Check.read(ONE_ALONE[i]);
            due("18: the least, one alone", x.simmered(0), i < 2 ? 60 : 100);
            due("18: the greatest, one alone", x.simmered(1), i < 2 ? 60 : 100);
        }
        String[] texts = {"", ONE_ALONE[0], ONE_ALONE[1], ONE_ALONE[2], ONE_ALONE[3],
            "skin 4 64 10 99 999 4 0;", "skin 4 61 10 99 999 4 0;", "skin 4 999 10 99 40 4 0;", "skin 1 1 0 0 1 0 0;",
            "skin 6 120 12 300 999 20 3;fire 180 20;", "skin 9 170 10 60 999 0 0;simmer 80 20;turn 2;fire 130 9;"};
        for (String text : texts) {
            int least = NONE;
            int greatest = NONE;
            for (int t = 60; t <= 100; t++) {
                if (staysWholeInAll(text, 0, t)) {
                    least = least == NONE ? t : least;
                    greatest = t;
                }
            }
            BurstSkins x = Check.read(text);
            due("18: the least of '" + text + "'", x.simmered(0), least);
            due("18: the greatest of '" + text + "'", x.simmered(1), greatest);
        }
    }

    private static void plannedByHand() {
        // None gets brown: the least h, the most often.
        BurstSkins x = new BurstSkins();
        for (int n : new int[] {8, 9}) {
            due("19: " + n + " SECONDS", x.planned(n, 0, 0), 0);
            due("19: the least h", x.planned(n, 0, 1), 80);
            due("19: the most often", x.planned(n, 0, 2), 5);
        }
        BurstSkins split = Check.read("skin 4 79 20 99 999 0 0;");
        BurstSkins popped = Check.read("skin 4 999 20 99 39 0 0;");
        BurstSkins thin = Check.read("skin 4 88 20 99 999 9 0;");
        for (int what = 0; what <= 2; what++) {
            due("19: none, SPLIT", split.planned(8, 0, what), NONE);
            due("19: none, POPPED", popped.planned(8, 0, what), NONE);
            due("19: none, with a spot", thin.planned(8, 4, what), NONE);
        }
        due("19: there is one without", thin.planned(8, 0, 1), 80);
    }

    /** Stays whole: the least BROWN of a plan of n SECONDS by hand; else NONE. */
    private static int leastBrown(String text, int spots, int n, int h, int each) {
        BurstSkins x = Check.read(text);
        x.spots(spots);
        for (int left = n; left > 0; left -= each) {
            x.fire(h, Math.min(each, left));
            if (left > each) {
                x.turn(1);
            }
        }
        int least = Math.min(Math.min(x.face(0, 1), x.face(1, 1)), Math.min(x.face(2, 1), x.face(3, 1)));
        return x.now(5) == 0 ? least : NONE;
    }

    private static void planned() {
        duePlanned("skin 1 133 35 34 299 0 0;", 0, 139, 5);
        duePlanned("skin 2 298 2 34 714 0 0;", 0, 46, 10);
        duePlanned("skin 6 929 18 148 719 0 0;", 0, 187, 15);
        duePlanned("skin 1 770 34 219 660 0 0;", 0, 93, 20);
        duePlanned("skin 4 516 19 295 158 0 0;", 0, 195, 25);
        duePlanned("skin 7 569 7 313 765 0 0;", 0, 135, 30);
        duePlanned("skin 7 650 29 387 515 0 0;", 0, 143, 35);
        duePlanned("skin 9 357 17 308 965 0 0;", 0, 189, 40);
        duePlanned("skin 4 209 17 345 890 0 0;", 0, 114, 25);
        duePlanned("skin 6 461 39 295 308 9 0;", 5, 72, 0);
        duePlanned("skin 3 300 10 300 300 90 0;", 8, 240, 0);
        duePlanned("skin 3 300 10 300 300 90 0;turn 1;prick 9;fire 300 99;", 0, 240, 0);
        duePlanned("skin 1 999 0 0 999 0 0;", 15, 8, 0);
        duePlanned("skin 1 999 0 0 999 0 0;", 15, 20, 0);
        duePlanned("skin 1 999 0 0 999 0 0;", 15, 239, 0);
        duePlanned("skin 1 999 0 0 999 0 0;", 15, 240, 0);
    }

    /** Which each is the best is told where it was looked for, else 0. */
    private static void duePlanned(String text, int spots, int n, int bestEach) {
        int most = NONE;
        int heat = NONE;
        int often = NONE;
        for (int h = 80; h <= 260; h += 20) {
            for (int each = 5; each <= 40; each += 5) {
                int least = leastBrown(text, spots, n, h, each);
                if (least > most) {
                    most = least;
                    heat = h;
                    often = each;
                }
            }
        }
        BurstSkins x = Check.read(text);
        String call = "19: planned(" + n + ", " + spots + ") of '" + text + "', ";
        due(call + 0, x.planned(n, spots, 0), most);
        due(call + 1, x.planned(n, spots, 1), heat);
        due(call + 2, x.planned(n, spots, 2), often);
        check.isTrue(call + "the best is " + bestEach, bestEach == 0 || bestEach == often);
    }
}
