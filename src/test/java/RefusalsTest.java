import java.util.Arrays;

/**
 * Each number of each call: the last that may be and the first that may not, on both sides. A refused call
 * changes nothing; of two refusals at once the first is told.
 */
public final class RefusalsTest {
    private static final int BAD = -1, STATE = -2, FULL = -3, NO = -1000000;

    private static final Check check = new Check("RefusalsTest");

    private interface Call {
        long on(BurstSkins x, int... numbers);
    }

    public static void main(String[] args) {
        sausageCalls();
        secondCalls();
        planCalls();
        panCalls();
        otherCalls();
        doingsOfAPlan();
        full();
        state();
        faults();
        questionsChangeNothing();
        check.end();
    }

    /** One of which all there is has been changed from as at first. */
    private static BurstSkins lived() {
        BurstSkins x = Check.read("skin 5 500 7 400 450 60 3;bent 2 11;fire 150 9;turn 1;prick 2;simmer 70 20;");
        x.fire(250, 8);
        x.turn(1);
        x.prick(3);
        x.spots(6);
        x.keep(0);
        x.fire(220, 6);
        x.keep(1);
        x.simmer(99, 2);
        x.heat(1, 33);
        x.test(12, 90);
        x.test(8, 300);
        x.mark(3, 1);
        Check.typed(x, "turn 2;fire 90 7;bent 1 5;");
        return x;
    }

    /** Asks for each number by itself, the others as they fit: from low to high it may be, no further. */
    private static void limits(String name, int refusal, Call call, int[] fit, int[] low, int[] high) {
        for (int i = 0; i < fit.length; i++) {
            for (int v : new int[] {low[i], high[i]}) {
                int[] numbers = fit.clone();
                numbers[i] = v;
                check.isTrue(name + Arrays.toString(numbers) + " may be", call.on(lived(), numbers) != refusal);
            }
            for (int v : new int[] {low[i] - 1, high[i] + 1, Integer.MIN_VALUE, Integer.MAX_VALUE}) {
                int[] numbers = fit.clone();
                numbers[i] = v;
                BurstSkins x = lived();
                refused(name + Arrays.toString(numbers), call.on(x, numbers), refusal, x, lived());
            }
        }
    }

    /** x was asked, its twin was not: they are alike. */
    private static void refused(String call, long answer, int refusal, BurstSkins x, BurstSkins twin) {
        check.due(call, answer, refusal);
        String unlike = Answers.of(x).unlike(Answers.of(twin));
        check.isTrue(call + " changes nothing: " + unlike, unlike.isEmpty());
    }

    private static int[] ints(int... numbers) {
        return numbers;
    }

    private static void sausageCalls() {
        limits("2: type(v)", BAD, (x, a) -> x.type(0x7475726E20313BL, a[0]), ints(7), ints(1), ints(8));
        limits("5: told", BAD, (x, a) -> x.told(a[0]), ints(1), ints(0), ints(10));
        limits("6: doing", BAD, (x, a) -> x.doing(a[0], a[1]), ints(1, 1), ints(0, 0), ints(3, 2));
    }

    private static void secondCalls() {
        limits("7: fire", BAD, (x, a) -> x.fire(a[0], a[1]), ints(200, 3), ints(0, 1), ints(300, 99));
        limits("8: simmer", BAD, (x, a) -> x.simmer(a[0], a[1]), ints(60, 3), ints(20, 1), ints(100, 99));
        limits("9: turn", BAD, (x, a) -> x.turn(a[0]), ints(2), ints(1), ints(3));
        limits("10: prick", BAD, (x, a) -> x.prick(a[0]), ints(2), ints(1), ints(9));
        limits("11: spots", BAD, (x, a) -> x.spots(a[0]), ints(3), ints(0), ints(15));
        limits("12: face", BAD, (x, a) -> x.face(a[0], a[1]), ints(1, 1), ints(0, 0), ints(3, 3));
        limits("13: now", BAD, (x, a) -> x.now(a[0]), ints(1), ints(0), ints(9));
    }

    private static void planCalls() {
        limits("15: run", BAD, (x, a) -> x.run(a[0], a[1]), ints(1, 1), ints(0, 0), ints(15, 10));
        limits("17: pricks", BAD, (x, a) -> x.pricks(a[0]), ints(0), ints(0), ints(1));
        limits("18: simmered", BAD, (x, a) -> x.simmered(a[0]), ints(0), ints(0), ints(1));
        limits("19: planned", BAD, (x, a) -> x.planned(a[0], a[1], a[2]), ints(50, 1, 1), ints(8, 0, 0), ints(240, 15, 2));
    }

    private static void panCalls() {
        limits("20: heat", BAD, (x, a) -> x.heat(a[0], a[1]), ints(1, 1), ints(0, 0), ints(3, 99));
        limits("21: even", BAD, (x, a) -> x.even(a[0], a[1]), ints(2, 1), ints(1, 0), ints(3, 1));
        limits("22: began", BAD, (x, a) -> x.began(a[0], a[1], a[2]), ints(9, 1, 1), ints(1, 0, 0), ints(999, 3, 4));
        limits("23: why", BAD, (x, a) -> x.why(a[0], a[1], a[2], a[3]), ints(9, 1, 1, 1), ints(1, 0, 0, 0),
            ints(999, 3, 4, 1));
    }

    private static void otherCalls() {
        limits("24: dried", BAD, (x, a) -> x.dried(a[0], a[1], a[2], a[3]), ints(50, 0, 3, 9), ints(1, 0, 0, 0),
            ints(9999, 50, 9, 200));
        limits("25: days", BAD, (x, a) -> x.days(a[0], a[1], a[2], a[3]), ints(50, 0, 3, 50), ints(1, 0, 0, 0),
            ints(9999, 50, 9, 9999));
        limits("26: test", BAD, (x, a) -> x.test(a[0], a[1]), ints(9, 9), ints(0, 0), ints(30, 999));
        limits("27: holds", BAD, (x, a) -> x.holds(a[0]), ints(1), ints(0), ints(2));
        limits("28: tube", BAD, (x, a) -> x.tube(a[0], a[1], a[2]), ints(9, 9, 1), ints(1, 1, 0), ints(99, 999, 1));
        limits("29: mark", NO, (x, a) -> x.mark(a[0], a[1]), ints(1, 1), ints(0, 0), ints(5, 3));
        limits("30: keep", BAD, (x, a) -> x.keep(a[0]), ints(1), ints(0), ints(1));
        limits("31: back", BAD, (x, a) -> x.back(a[0]), ints(1), ints(0), ints(1));
        limits("32: count", BAD, (x, a) -> x.count(a[0]), ints(1), ints(0), ints(2));
        // d is w at most, the least w too.
        check.due("24: dried(1, 1, 0, 1)", new BurstSkins().dried(1, 1, 0, 1), 1);
        check.due("24: dried(1, 2, 0, 1)", new BurstSkins().dried(1, 2, 0, 1), BAD);
        check.due("24: dried(9999, 9999, 0, 1)", new BurstSkins().dried(9999, 9999, 0, 1), 9999);
        check.due("24: dried(9999, 10000, 0, 1)", new BurstSkins().dried(9999, 10000, 0, 1), BAD);
        check.due("25: days(1, 1, 0, 1)", new BurstSkins().days(1, 1, 0, 1), 0);
        check.due("25: days(1, 2, 0, 1)", new BurstSkins().days(1, 2, 0, 1), BAD);
    }

    /** A DOING there is none of: none, one, twelve. */
    private static void doingsOfAPlan() {
        for (int many : new int[] {0, 1, 11, 12}) {
            BurstSkins x = Check.read("prick 7;".repeat(many));
            for (int k = -1; k <= 13; k++) {
                boolean is = k >= 0 && k < many;
                check.due("6: doing(" + k + ", 0) of " + many, x.doing(k, 0), is ? 2 : BAD);
                check.due("6: doing(" + k + ", 1) of " + many, x.doing(k, 1), is ? 7 : BAD);
                check.due("6: doing(" + k + ", 2) of " + many, x.doing(k, 2), is ? 0 : BAD);
                check.due("6: doing(" + k + ", 3) of " + many, x.doing(k, 3), BAD);
            }
        }
    }

    private static BurstSkins livedWithText(int bytes) {
        BurstSkins x = lived();
        Check.typed(x, " ".repeat(bytes - x.count(2)));
        return x;
    }

    private static BurstSkins livedWithTests(int tests) {
        BurstSkins x = lived();
        for (int i = x.count(1); i < tests; i++) {
            x.test(20, 500);
        }
        return x;
    }

    private static void full() {
        for (int n = 1; n <= 8; n++) {
            BurstSkins x = livedWithText(301 - n);
            refused("2: type(v, " + n + ") on " + (301 - n), x.type(-1L, n), FULL, x, livedWithText(301 - n));
            BurstSkins y = livedWithText(300 - n);
            check.due("2: type(v, " + n + ") on " + (300 - n), y.type(-1L, n), 300);
        }
        for (int n : new int[] {0, 9, Integer.MIN_VALUE, Integer.MAX_VALUE}) {
            BurstSkins x = livedWithText(300);
            refused("2: BAD ahead of FULL: type(v, " + n + ")", x.type(0L, n), BAD, x, livedWithText(300));
        }
        check.due("26: the 20th TEST", livedWithTests(19).test(0, 0), 20);
        BurstSkins twenty = livedWithTests(20);
        refused("26: a 21st TEST", twenty.test(0, 0), FULL, twenty, livedWithTests(20));
        for (int[] wrong : new int[][] {{-1, 0}, {31, 0}, {0, -1}, {0, 1000}}) {
            BurstSkins x = livedWithTests(20);
            refused("26: BAD ahead of FULL", x.test(wrong[0], wrong[1]), BAD, x, livedWithTests(20));
        }
    }

    /** As lived(), but no IMAGE is kept; by THE PLAN it stays whole whatever the CAUSE. */
    private static BurstSkins withoutImages() {
        BurstSkins x = Check.read("skin 5 900 7 400 950 60 3;simmer 70 20;");
        x.fire(250, 8);
        x.spots(6);
        Check.typed(x, "turn 2;");
        return x;
    }

    private static void state() {
        for (int image = 0; image <= 1; image++) {
            BurstSkins x = withoutImages();
            refused("31: back(" + image + "), none kept", x.back(image), STATE, x, withoutImages());
        }
        BurstSkins other = withoutImages();
        other.keep(1);
        check.due("31: back(0), 1 alone kept", other.back(0), STATE);
        check.due("31: back(1), that is kept", other.back(1), 8);
        check.due("31: BAD ahead of STATE: back(2)", withoutImages().back(2), BAD);
        check.due("31: BAD ahead of STATE: back(-1)", withoutImages().back(-1), BAD);
        for (int cause = 0; cause <= 4; cause++) {
            for (int what = 0; what <= 1; what++) {
                BurstSkins x = withoutImages();
                refused("23: why, no CAUSE at all", x.why(20, 0, cause, what), STATE, x, withoutImages());
            }
        }
        for (int[] wrong : new int[][] {{0, 0, 0, 0}, {1000, 0, 0, 0}, {20, -1, 0, 0}, {20, 4, 0, 0}, {20, 0, -1, 0},
            {20, 0, 5, 0}, {20, 0, 0, -1}, {20, 0, 0, 2}}) {
            check.due("23: BAD ahead of STATE: why" + Arrays.toString(wrong),
                withoutImages().why(wrong[0], wrong[1], wrong[2], wrong[3]), BAD);
        }
    }

    private static BurstSkins livedWithFault() {
        BurstSkins x = lived();
        Check.typed(x, "bent 0 0;");
        return x;
    }

    private static void faults() {
        BurstSkins x = livedWithFault();
        refused("4: sausage() with a FAULT", x.sausage(), -10 - 26, x, livedWithFault());
    }

    /** Calls that tell but change nothing, whatever they are asked. */
    private static void questionsChangeNothing() {
        BurstSkins x = lived();
        for (int i = 0; i < 2; i++) {
            x.run(9, i);
            x.odds();
            x.pricks(i);
            x.simmered(i);
            x.planned(77, 4, i);
            x.even(2 + i, i);
            x.began(3, i, 2 + i);
            x.why(3, 1, 2, i);
            x.dried(900, 20, 3, 17 + i);
            x.days(900, 20, 3, 17 + i);
            x.holds(i);
            x.tube(3, 4, i);
            x.count(i);
            x.trace();
            x.told(i);
            x.doing(0, i);
            x.face(2, i);
            x.now(i);
        }
        String unlike = Answers.of(x).unlike(Answers.of(lived()));
        check.isTrue("15 to 28: questions change nothing: " + unlike, unlike.isEmpty());
        BurstSkins kept = lived();
        kept.keep(0);
        check.due("30: keep changes nothing of NOW", kept.now(4), lived().now(4));
    }
}
