/** What the tests have in common: they count what is not as due, and end with 1 if there was one. */
final class Check {
    private final String name;
    private int asked;
    private int wrong;

    Check(String name) {
        this.name = name;
    }

    void due(String call, long got, long want) {
        asked++;
        if (got != want) {
            wrong++;
            System.out.println(name + ": " + call + " answered " + got + ", due is " + want);
        }
    }

    void isTrue(String what, boolean holds) {
        due(what, holds ? 1 : 0, 1);
    }

    int wrong() {
        return wrong;
    }

    void end() {
        System.out.println(name + ": " + asked + " asked, " + wrong + " wrong");
        if (wrong != 0) {
            System.exit(1);
        }
    }

    /** Types a text of bytes (characters 0 to 255), eight at a time; answers the last call's answer. */
    static int typed(BurstSkins x, String text) {
        int answer = 0;
        for (int from = 0; from < text.length(); from += 8) {
            int n = Math.min(8, text.length() - from);
            long v = 0;
            for (int i = 0; i < n; i++) {
                v = v << 8 | text.charAt(from + i);
            }
            answer = x.type(v, n);
        }
        return answer;
    }

    /** A new object that has read a text. */
    static BurstSkins read(String text) {
        BurstSkins x = new BurstSkins();
        typed(x, text);
        if (x.sausage() < 0) {
            throw new IllegalArgumentException("the text can't be read: " + text);
        }
        return x;
    }
}
