import java.util.LinkedHashMap;
import java.util.Map;

/** All that can be asked of an object, and what undoing and its image bring back: two that went one way look the same. */
final class Portrait {
    private final Run of;
    private final Map<String, Long> answers = new LinkedHashMap<>();
    private String when = "";

    private Portrait(Run of) {
        this.of = of;
    }

    /** Nothing is left to ask of the object then: all is undone. */
    static Map<String, Long> of(Run run) {
        Portrait portrait = new Portrait(run);
        portrait.all();
        portrait.undoAll("");
        portrait.image();
        return portrait.answers;
    }

    static Map<String, Long> withoutImage(Run run) {
        Portrait portrait = new Portrait(run);
        portrait.all();
        portrait.undoAll("");
        return portrait.answers;
    }

    static void compare(Check check, String ahead, Map<String, Long> want, Map<String, Long> got) {
        check.same(ahead + "answers", want.size(), got.size());
        for (String question : want.keySet()) {
            check.same(ahead + question, want.get(question), got.getOrDefault(question, Long.MAX_VALUE));
        }
    }

    private long ask(String name, int... numbers) {
        long answer = of.call(name, numbers);
        answers.put(when + Run.shown(name, numbers), answer);
        return answer;
    }

    private void image() {
        when = "then ";
        ask("restore");
        ask("count", 9);
        ask("count", 10);
        ask("liars");
        acted();
        undoAll("after the image ");
    }

    private void undoAll(String after) {
        long left = 1;
        for (int i = 1; left > 0 && i <= 41; i++) {
            when = after + i + " undone: ";
            left = ask("undo");
            acted();
        }
        when = "";
    }

    private void all() {
        for (int what = 0; what < 15; what++) {
            ask("count", what);
        }
        ask("fault");
        ask("liars");
        ask("fir", 0);
        ask("fir", 1);
        for (int i = 0; i < 6; i++) {
            ask("stop", i);
        }
        long cells = of.call("count", 0) * of.call("count", 1);
        for (int cell = 0; cell < Math.min(cells, 16); cell++) {
            for (int what = 0; what < 5; what++) {
                ask("cell", cell, what);
            }
        }
        long houses = of.call("count", 3);
        for (int house = 0; house < houses; house++) {
            ask("house", house, 0);
            ask("house", house, 1);
            ask("house", house, 6);
            ask("house", house, 7);
            ask("seen", house);
        }
        acted();
    }

    /** What acts change. */
    private void acted() {
        ask("count", 5);
        ask("count", 6);
        for (int tree = 0; tree < 12; tree++) {
            if (ask("tree", tree, 0) >= 0) {
                ask("tree", tree, 1);
                ask("tree", tree, 2);
            }
        }
        long houses = of.call("count", 3);
        for (int house = 0; house < houses; house++) {
            for (int what = 2; what < 6; what++) {
                ask("house", house, what);
            }
        }
    }
}
