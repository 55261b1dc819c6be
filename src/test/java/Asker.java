import java.util.ArrayList;
import java.util.List;

/**
 * Asks what an object answers behind a run of calls. An object is good for 512 calls only: when they
 * are used up, the run is played once more on a new object, which is then asked further.
 */
final class Asker {
    private static final int NONE = OutlineDesk.NONE;
    private static final int FIELDS = 16;
    /** In outlines above this size one entry in so many is looked at, for the sake of time. */
    private static final int MOST_CLOSELY = 40;
    private static final int LESS_CLOSELY = 57;

    private interface Question {
        int answer(OutlineDesk desk);
    }

    private final List<Script.Row> run;
    private OutlineDesk desk;
    private int calls;

    Asker(List<Script.Row> run) {
        this.run = run;
        play();
    }

    private void play() {
        desk = new OutlineDesk();
        calls = 0;
        for (Script.Row row : run) {
            Script.answer(desk, row);
            calls++;
        }
        if (calls >= Script.MOST_CALLS) {
            throw new IllegalStateException("the run leaves no call for a question");
        }
    }

    private int ask(Question question) {
        if (calls == Script.MOST_CALLS) {
            play();
        }
        calls++;
        return question.answer(desk);
    }

    int about(int what) {
        return ask(desk -> desk.about(what));
    }

    int steps(int what) {
        return ask(desk -> desk.steps(what));
    }

    private boolean isThere(int id) {
        try {
            told(id, 0);
            return true;
        } catch (IndexOutOfBoundsException e) {
            return false;
        }
    }

    private static String joined(List<?> words) {
        StringBuilder text = new StringBuilder();
        for (Object word : words) {
            text.append(text.isEmpty() ? "" : " ").append(word);
        }
        return text.toString();
    }

    String tree(int parent) {
        List<String> words = new ArrayList<>();
        int place = 0;
        for (int id = child(parent, 0); id != NONE; id = child(parent, place)) {
            String under = tree(id);
            words.add(id + (under.isEmpty() ? "" : "(" + under + ")"));
            place++;
        }
        return joined(words);
    }

    private int child(int parent, int place) {
        return ask(desk -> desk.child(parent, place));
    }

    String lines() {
        List<Integer> words = new ArrayList<>();
        for (int id = line(0); id != NONE; id = line(words.size())) {
            words.add(id);
        }
        return joined(words);
    }

    private int line(int i) {
        return ask(desk -> desk.line(i));
    }

    String items() {
        List<String> words = new ArrayList<>();
        int items = about(2);
        for (int i = 0; i < items; i++) {
            words.add(found(i, 0) + ":" + found(i, 1) + ":" + found(i, 2));
        }
        return joined(words);
    }

    private int found(int i, int what) {
        return ask(desk -> desk.found(i, what));
    }

    String fields(int id) {
        List<Integer> words = new ArrayList<>();
        for (int what = 0; what < FIELDS; what++) {
            words.add(told(id, what));
        }
        return joined(words);
    }

    private int told(int id, int what) {
        return ask(desk -> desk.told(id, what));
    }

    /** All that an edit can change. */
    String outline() {
        StringBuilder text = new StringBuilder();
        int made = about(1);
        for (int id = 0; id < made; id += made > MOST_CLOSELY ? LESS_CLOSELY : 1) {
            if (isThere(id)) {
                text.append(id).append(": ").append(fields(id)).append('\n');
            }
        }
        return text.append("lines: ").append(lines()).append('\n').toString();
    }

    /** All that can be asked, also behind each undo and redo that is possible. */
    String picture() {
        StringBuilder text = new StringBuilder();
        for (int what = 0; what < 4; what++) {
            text.append("about ").append(what).append(": ").append(about(what)).append('\n');
        }
        for (int what = 0; what < 3; what++) {
            text.append("steps ").append(what).append(": ").append(steps(what)).append('\n');
        }
        text.append("items: ").append(items()).append('\n').append(outline());
        boolean open = isOpen();
        text.append("open: ").append(open).append('\n');
        List<Script.Row> closed = open ? with(run, "close") : run;
        addSteps(closed, "undo", 0, text);
        addSteps(closed, "redo", 1, text);
        return text.toString();
    }

    private boolean isOpen() {
        OutlineDesk other = new OutlineDesk();
        for (Script.Row row : run) {
            Script.answer(other, row);
        }
        return Check.answerOf(() -> {
            other.open();
            return 0;
        }).startsWith("throws");
    }

    private void addSteps(List<Script.Row> closed, String name, int what, StringBuilder text) {
        int most = new Asker(closed).steps(what);
        boolean closely = about(1) <= MOST_CLOSELY;
        for (int n = 1; n <= most && closed.size() + n + 4 < Script.MOST_CALLS; n++) {
            if (closely || n == 1 || n == most) {
                String outline = new Asker(with(closed, n + "* " + name)).outline();
                text.append(n).append("* ").append(name).append('\n').append(outline);
            }
        }
    }

    static List<Script.Row> with(List<Script.Row> run, String more) {
        List<Script.Row> all = new ArrayList<>(run);
        all.addAll(Script.rows(more));
        return all;
    }
}
