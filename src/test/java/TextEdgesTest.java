/** THE TEXT: how bytes come to it, what can stand in it, where its FAULTS are, what a new one leaves. */
public final class TextEdgesTest {
    private static final int STATE = -2, FULL = -3;
    private static final String[] WORDS = {"skin", "bent", "fire", "turn", "prick", "simmer"};
    private static final int[][] LOW = {{1, 1, 0, 0, 1, 0, 0}, {0, 0}, {0, 1}, {1}, {1}, {20, 1}};
    private static final int[][] HIGH = {{9, 999, 99, 999, 999, 999, 10}, {3, 99}, {300, 99}, {3}, {9}, {100, 99}};

    private static final Check check = new Check("TextEdgesTest");

    public static void main(String[] args) {
        lowestBytes();
        bytesInAll();
        itemsInAll();
        blanks();
        endsEverywhere();
        for (int word = 0; word < WORDS.length; word++) {
            wrongTokens(word);
            endsTooEarly(word);
            numbersThatMayBe(word);
        }
        numbersAsTokens();
        wordsAsTokens();
        toldAgain();
        thirteenth();
        firstFault();
        faultLeavesTheText();
        readAnew();
        check.end();
    }

    private static void due(String call, long got, long want) {
        check.due(call, got, want);
    }

    private static int fault(String text) {
        BurstSkins x = new BurstSkins();
        Check.typed(x, text);
        return -10 - x.sausage();
    }

    private static void dueFault(String text, int place) {
        due("4: the FAULT of '" + text + "'", fault(text), place);
    }

    private static void dueItems(String text, int items) {
        BurstSkins x = new BurstSkins();
        Check.typed(x, text);
        due("4: the ITEMS of '" + text + "'", x.sausage(), items);
        due("4: THE TEXT is empty then", x.count(2), 0);
    }

    /** The same text by each n, with other bytes above those that are asked for. */
    private static void lowestBytes() {
        String text = "fire 271 86;simmer 59 30;turn 3;prick 8;        ";
        for (int n = 1; n <= 8; n++) {
            BurstSkins x = new BurstSkins();
            int bytes = 0;
            for (int from = 0; from + n <= text.length(); from += n) {
                long v = -1L;
                for (int i = 0; i < n; i++) {
                    v = v << 8 | text.charAt(from + i);
                }
                bytes += n;
                due("2: type(v, " + n + ")", x.type(v, n), bytes);
            }
            due("2: by " + n + " it is that text", x.sausage(), 4);
            due("2: first DOING by " + n, x.doing(0, 1) * 1000 + x.doing(0, 2), 271086);
            due("2: second DOING by " + n, x.doing(1, 1) * 1000 + x.doing(1, 2), 59030);
        }
    }

    private static void bytesInAll() {
        for (int length : new int[] {0, 1, 7, 8, 9, 299, 300}) {
            BurstSkins x = new BurstSkins();
            Check.typed(x, " ".repeat(length));
            due("32: bytes", x.count(2), length);
            due("3: clear()", x.clear(), length);
            due("3: none is left", x.count(2), 0);
            due("3: clear() of none", x.clear(), 0);
            due("2: a text begins anew", x.type(0, 1), 1);
        }
        BurstSkins x = new BurstSkins();
        Check.typed(x, " ".repeat(293) + "turn 2;");
        due("2: the 301st byte", x.type(' ', 1), FULL);
        due("4: 300 bytes, to the last", x.sausage(), 1);
        due("4: read", x.doing(0, 1), 2);
        due("2: 300 more", Check.typed(x, "turn 1;" + " ".repeat(293)), 300);
        due("4: 300 bytes, blanks behind", x.sausage(), 1);
        dueFault(" ".repeat(294) + "turn 2", 300);
        dueFault(" ".repeat(293) + "turn 2,", 299);
        dueFault(" ".repeat(299) + ";", 299);
        dueFault("x" + " ".repeat(299), 0);
        // What a longer text left behind is none of a shorter one.
        BurstSkins y = Check.read("turn 1;turn 2;turn 3;");
        Check.typed(y, "turn 3");
        due("4: ends where it ends", y.sausage(), -16);
    }

    private static void itemsInAll() {
        dueItems("", 0);
        dueItems(" ", 0);
        dueItems(" ".repeat(300), 0);
        dueItems("skin 1 1 0 0 1 0 0;", 1);
        dueItems("bent 0 0;", 1);
        dueItems("turn 1;", 1);
        dueItems("turn 1;".repeat(12), 12);
        dueItems("turn 1;".repeat(12) + "bent 0 0;skin 1 1 0 0 1 0 0;", 14);
        dueItems("skin 1 1 0 0 1 0 0;bent 0 0;" + "simmer 100 99;".repeat(12), 14);
        dueItems("turn 1;".repeat(6) + "skin 1 1 0 0 1 0 0;" + "turn 1;".repeat(6) + "bent 0 0;", 14);
        due("5: no SECONDS", Check.read("").told(10), 0);
        due("5: one SECOND", Check.read("fire 0 1;").told(10), 1);
        due("5: the most SECONDS", Check.read("simmer 20 99;fire 0 99;".repeat(6)).told(10), 1188);
        due("5: the most DOINGS", Check.read("simmer 20 99;fire 0 99;".repeat(6)).told(9), 12);
        due("5: turns and pricks have none", Check.read("turn 3;prick 9;").told(10), 0);
    }

    private static void blanks() {
        dueItems("skin1 1 0 0 1 0 0;bent0 0;fire0 1;turn1;prick1;simmer20 1;", 6);
        dueItems("   skin   1   1   0   0   1   0   0   ;   bent   0   0   ;   turn   1   ;   ", 3);
        dueItems(" turn1;", 1);
        dueItems("turn1; ", 1);
        dueItems("turn1 ;", 1);
        for (int b : new int[] {0, 9, 10, 11, 12, 13, 31, 33, 127, 128, 160, 255}) {
            String other = String.valueOf((char) b);
            dueFault(other, 0);
            dueFault(other + "turn 1;", 0);
            dueFault("turn" + other + "1;", 4);
            dueFault("turn 1" + other + ";", 6);
            dueFault("turn 1;" + other, 7);
        }
        // No blank stands within a TOKEN.
        dueFault("tu rn 1;", 0);
        dueFault("fire 1 2 1;", 9);
        dueItems("fire 10 1;", 1);
    }

    /** Signs that are next to those of a TOKEN are none of it. */
    private static void endsEverywhere() {
        dueFault("`turn 1;", 0);
        dueFault("{turn 1;", 0);
        dueFault("turn` 1;", 4);
        dueFault("turn{ 1;", 4);
        dueFault("turn /1;", 5);
        dueFault("turn :1;", 5);
        dueFault("turn 1/;", 6);
        dueFault("turn 1:;", 6);
        dueFault("turn 1<;", 6);
        dueFault("turn 1 <;", 7);
        dueFault("turn -1;", 5);
        dueFault("turn +1;", 5);
        dueFault("turn 1.0;", 6);
        dueFault("@", 0);
        dueFault("[", 0);
        dueFault("A", 0);
        dueFault("Z", 0);
    }

    /** Each TOKEN of an ITEM in turn is another that can't stand there: the FAULT is its place. */
    private static void wrongTokens(int word) {
        int many = LOW[word].length;
        String[] wrong = {"a", "z", "skin", "turn", "turnturn", "1", "999", "1000", "00", "01", ";", ",", "-1", "A",
            String.valueOf((char) 0), String.valueOf((char) 255)};
        for (int token = 0; token <= many + 1; token++) {
            for (String other : wrong) {
                if (!mayStand(word, token, other)) {
                    dueWrongToken(word, token, other, "");
                    dueWrongToken(word, token, other, "  ");
                }
            }
        }
        for (int i = 0; i < many; i++) {
            dueWrongToken(word, 1 + i, String.valueOf(HIGH[word][i] + 1), "");
            if (LOW[word][i] > 0) {
                dueWrongToken(word, 1 + i, String.valueOf(LOW[word][i] - 1), "");
            }
        }
    }

    private static boolean mayStand(int word, int token, String other) {
        if (token == 0) {
            return other.equals("skin") || other.equals("turn");
        }
        if (token > LOW[word].length) {
            return other.equals(";");
        }
        boolean isNumber = other.equals("1") || other.equals("999");
        int v = isNumber ? Integer.parseInt(other) : -1;
        return isNumber && v >= LOW[word][token - 1] && v <= HIGH[word][token - 1];
    }

    private static void dueWrongToken(int word, int token, String other, String blanks) {
        StringBuilder text = new StringBuilder("prick 1;").append(blanks);
        int place = 0;
        for (int t = 0; t <= LOW[word].length + 1; t++) {
            text.append(t == 0 ? "" : " ").append(blanks);
            place = t == token ? text.length() : place;
            String right = t == 0 ? WORDS[word] : t > LOW[word].length ? ";" : String.valueOf(LOW[word][t - 1]);
            text.append(t == token ? other : right);
        }
        dueFault(text.toString(), place);
        // Whatever follows, if anything does, the FAULT is the first.
        dueFault(text.substring(0, place + other.length()), place);
        dueFault(text + " turn 9;?", place);
    }

    /** Cut behind each TOKEN but the last: the FAULT is the text's length. */
    private static void endsTooEarly(int word) {
        StringBuilder text = new StringBuilder("turn 1;").append(WORDS[word]);
        for (int i = 0; i < LOW[word].length; i++) {
            dueFault(text.toString(), text.length());
            dueFault(text + "   ", text.length() + 3);
            text.append(' ').append(LOW[word][i]);
        }
        dueFault(text.toString(), text.length());
        dueFault(text + " ", text.length() + 1);
        dueItems(text + ";", 2);
    }

    /** The least and the greatest, as they are told then. */
    private static void numbersThatMayBe(int word) {
        for (int[] numbers : new int[][] {LOW[word], HIGH[word]}) {
            StringBuilder text = new StringBuilder(WORDS[word]);
            for (int v : numbers) {
                text.append(' ').append(v);
            }
            BurstSkins x = Check.read(text.append(';').toString());
            for (int i = 0; i < numbers.length; i++) {
                int told = word == 0 ? x.told(i) : word == 1 ? x.told(7 + i) : x.doing(0, 1 + i);
                due("4: number " + i + " of '" + text + "'", told, numbers[i]);
            }
            if (word > 1) {
                due("6: what it is, '" + text + "'", x.doing(0, 0), word - 2);
            }
            if (word > 1 && numbers.length == 1) {
                due("6: no second number, '" + text + "'", x.doing(0, 2), 0);
            }
        }
    }

    private static void numbersAsTokens() {
        dueItems("fire 0 1;", 1);
        for (String zeros : new String[] {"00", "000", "01", "001", "0300", "00000000000000001"}) {
            dueFault("fire " + zeros + " 1;", 5);
            dueFault("fire 1 " + zeros + ";", 7);
        }
        // Where 999 may be: one more, ten times as much, and such as would come round to 1 by 32 or 64 bits.
        dueItems("skin 1 999 0 999 999 999 0;", 1);
        String[] above = {"1000", "1001", "9990", "9999", "99999", "4294967297", "8589934593", "18446744073709551617",
            "1" + "0".repeat(31) + "1", "9".repeat(200)};
        for (String number : above) {
            dueFault("skin 1 " + number + " 0 0 1 0 0;", 7);
            dueFault("skin 1 1 0 " + number + " 1 0 0;", 11);
            dueFault("skin 1 1 0 0 " + number + " 0 0;", 13);
            dueFault("skin 1 1 0 0 1 " + number + " 0;", 15);
            dueFault("turn " + number + ";", 5);
        }
    }

    private static void wordsAsTokens() {
        for (String word : WORDS) {
            for (int i = 0; i < word.length(); i++) {
                dueFault(word.substring(0, i + 1).equals(word) ? word + "a" : word.substring(0, i + 1), 0);
                dueFault(word.substring(0, i) + "a" + word.substring(i) + " 1 1;", 0);
                dueFault(word.substring(0, i) + "z" + word.substring(i + 1) + " 1 1;", 0);
            }
            dueFault(word + "a 1 1;", 0);
            dueFault(word + "z 1 1;", 0);
            dueFault(word + word + " 1 1;", 0);
            dueFault(word + "s 1 1;", 0);
        }
        dueFault("a", 0);
        dueFault("z;", 0);
        dueFault("abcdefghijklmnopqrstuvwxyz", 0);
    }

    private static void toldAgain() {
        String skin = "skin 1 1 0 0 1 0 0;";
        dueFault(skin + skin, 19);
        dueFault(skin + "  skin", 21);
        dueFault(skin + "turn 1;skin 0", 26);
        dueFault("bent 0 0;bent 0 0;", 9);
        dueFault("bent 0 0;turn 1; bent", 17);
        dueItems("bent 0 0;" + skin, 2);
        dueFault("bent 0 0;" + skin + "bent 0 0;", 28);
        dueFault("bent 0 0;" + skin + skin, 28);
        // What may be told again is told by each text anew.
        BurstSkins x = Check.read(skin + "bent 0 0;");
        Check.typed(x, skin + "bent 1 1;");
        due("4: another text", x.sausage(), 2);
    }

    private static void thirteenth() {
        String[] doings = {"fire 0 1;", "turn 1;", "prick 1;", "simmer 20 1;"};
        for (String doing : doings) {
            String twelve = "simmer 100 99;".repeat(12);
            dueItems("simmer 100 99;".repeat(11) + doing, 12);
            dueFault(twelve + doing, 168);
            dueFault(twelve + "  " + doing, 170);
            dueFault(twelve + doing.substring(0, 4), 168);
            dueFault(twelve + "bent 0 0;" + doing, 177);
        }
        dueFault("turn 1;".repeat(13) + "turn 9;", 84);
        // Twelve that were read before are none of another text's.
        BurstSkins x = Check.read("turn 1;".repeat(12));
        Check.typed(x, "turn 2;".repeat(12));
        due("4: twelve anew", x.sausage(), 12);
    }

    private static void firstFault() {
        dueFault("turn 9;turn 9;", 5);
        dueFault("turn 1;turn 9 9", 12);
        dueFault("turn 1 ?;turn 9;", 7);
        dueFault("? turn", 0);
        dueFault("turn ?", 5);
        dueFault("turn 9", 5);
    }

    private static void faultLeavesTheText() {
        BurstSkins x = Check.read("turn 3;");
        Check.typed(x, "turn 1");
        due("4: it ends too early", x.sausage(), -16);
        Check.typed(x, ";");
        due("4: THE TEXT stayed: it goes on", x.sausage(), 1);
        due("4: and is read", x.doing(0, 1), 1);
        Check.typed(x, "turn 4");
        due("4: beyond what it may be", x.sausage(), -15);
        due("4: as long as it was", x.count(2), 6);
        due("4: THE PLAN stays", x.doing(0, 1), 1);
        x.clear();
        Check.typed(x, "skin 9 8 7 6 5 4 3;bent 2 1;prick 5;?");
        due("4: all but the last byte could be", x.sausage(), -10 - 36);
        int[] first = {3, 200, 10, 300, 300, 40, 2, 4, 0, 1, 0};
        for (int what = 0; what <= 10; what++) {
            due("4: told(" + what + ") stays", x.told(what), first[what]);
        }
    }

    private static void readAnew() {
        BurstSkins x = Check.read("skin 9 8 7 6 5 4 3;bent 2 1;prick 5;fire 8 9;");
        Check.typed(x, "bent 0 3;");
        due("4: no skin told", x.sausage(), 1);
        int[] bent = {3, 200, 10, 300, 300, 40, 2, 0, 3, 0, 0};
        for (int what = 0; what <= 10; what++) {
            due("5: told(" + what + "), no skin told", x.told(what), bent[what]);
        }
        x.fire(300, 9);
        x.turn(1);
        x.prick(2);
        x.spots(7);
        x.keep(0);
        x.keep(1);
        x.heat(3, 11);
        x.test(4, 50);
        x.test(5, 500);
        x.mark(2, 0);
        Check.typed(x, "skin 2 9 8 7 6 5 4;");
        due("4: no bend told", x.sausage(), 1);
        int[] told = {2, 9, 8, 7, 6, 5, 4, 4, 0, 0, 0};
        for (int what = 0; what <= 10; what++) {
            due("5: told(" + what + "), no bend told", x.told(what), told[what]);
        }
        int[] now = {0, 20, 7, 0, 0, 0, -9, 8, 8, 0};
        for (int what = 0; what <= 9; what++) {
            due("13: now(" + what + ") as at first", x.now(what), now[what]);
        }
        int[] face = {20, 0, 9, 16};
        for (int i = 0; i < 16; i++) {
            due("12: face(" + i / 4 + ", " + i % 4 + ") as at first", x.face(i / 4, i % 4), face[i % 4]);
        }
        due("11: no THIN SPOTS", x.spots(0), 0);
        due("31: IMAGE 0 is gone", x.back(0), STATE);
        due("31: IMAGE 1 is gone", x.back(1), STATE);
        due("20: HEATS stay", x.heat(3, 0), 11);
        due("26: TESTS stay", x.count(1), 2);
        due("27: the least", x.holds(0), 4);
        due("27: the greatest with more", x.holds(1), 5);
        due("33: THE TRACE stays", x.trace(), 101);
        due("4: nothing told: ITEMS", x.sausage(), 0);
        due("5: nothing told: as at first", x.told(1), 200);
    }
}
