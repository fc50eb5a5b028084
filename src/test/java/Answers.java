import java.util.ArrayList;
import java.util.List;

/** All that can be seen of an object, to tell whether two that lived alike but for a call are alike still. */
final class Answers {
    private final List<String> calls = new ArrayList<>();
    private final List<Long> answers = new ArrayList<>();

    private Answers() {
    }

    /** Asks for all; what can be seen only by changing it (IMAGES, THE TEXT) last. Some 300 calls. */
    static Answers of(BurstSkins x) {
        Answers all = new Answers();
        all.addSausage(x, "");
        all.addNow(x, "");
        all.addPlans(x);
        all.addRest(x);
        for (int image = 0; image <= 1; image++) {
            all.add("back(" + image + ")", x.back(image));
            all.addNow(x, "behind back(" + image + "), ");
        }
        all.add("count(2)", x.count(2));
        all.add("sausage()", x.sausage());
        all.addSausage(x, "read anew, ");
        all.add("clear()", x.clear());
        return all;
    }

    private void add(String call, long answer) {
        calls.add(call);
        answers.add(answer);
    }

    private void addSausage(BurstSkins x, String when) {
        for (int what = 0; what <= 10; what++) {
            add(when + "told(" + what + ")", x.told(what));
        }
        for (int k = 0; k < x.count(0); k++) {
            for (int what = 0; what <= 2; what++) {
                add(when + "doing(" + k + ", " + what + ")", x.doing(k, what));
            }
        }
    }

    private void addNow(BurstSkins x, String when) {
        for (int what = 0; what <= 9; what++) {
            add(when + "now(" + what + ")", x.now(what));
        }
        for (int i = 0; i < 16; i++) {
            add(when + "face(" + i / 4 + ", " + i % 4 + ")", x.face(i / 4, i % 4));
        }
        int set = x.spots(0);
        x.spots(set);
        add(when + "spots", set);
    }

    private void addPlans(BurstSkins x) {
        for (int what = 0; what <= 10; what++) {
            add("run(5, " + what + ")", x.run(5, what));
        }
        add("odds()", x.odds());
        add("pricks(0)", x.pricks(0));
        add("simmered(1)", x.simmered(1));
        add("planned(99, 3, 2)", x.planned(99, 3, 2));
    }

    private void addRest(BurstSkins x) {
        for (int cell = 0; cell <= 3; cell++) {
            int was = x.heat(cell, 0);
            x.heat(cell, was);
            add("heat(" + cell + ")", was);
        }
        for (int what = 0; what <= 2; what++) {
            add("holds(" + what + ")", x.holds(what));
            add("count(" + what + ")", x.count(what));
        }
        add("trace()", x.trace());
    }

    /** What differs first, or nothing. */
    String unlike(Answers other) {
        for (int i = 0; i < calls.size() && i < other.calls.size(); i++) {
            if (!calls.get(i).equals(other.calls.get(i)) || !answers.get(i).equals(other.answers.get(i))) {
                return calls.get(i) + " " + answers.get(i) + ", " + other.calls.get(i) + " " + other.answers.get(i);
            }
        }
        return calls.size() == other.calls.size() ? "" : "there is more of one";
    }
}
