import java.util.ArrayList;
import java.util.List;
import java.util.Set;

/**
 * Plays scripts and counts what is not as due. Beside the answers it looks, behind each call that is
 * refused or marked to change nothing, whether all is as it was, also with something to be redone and
 * in an open group; and, behind each edit, whether that is one step that can be undone and redone.
 */
final class Runs {
    private static final Set<String> OF_STEPS = Set.of("open", "close", "undo", "redo");
    private static final int MOST_STEPS = 60;
    private static final int MOST_MADE = 400;

    private final Check check;

    Runs(Check check) {
        this.check = check;
    }

    void play(String name, String script) {
        List<Script.Row> run = new ArrayList<>();
        OutlineDesk desk = new OutlineDesk();
        for (Script.Row row : Script.rows(script)) {
            String at = name + ": " + row.text();
            if (row.isView()) {
                check.due(at, view(run, row), row.due());
            } else {
                answer(at, Script.answer(desk, row), row);
                behind(at, run, row);
                run.add(row);
            }
        }
        if (run.size() > Script.MOST_CALLS) {
            check.fault(name + " has too many calls: " + run.size());
        }
    }

    private void answer(String at, String got, Script.Row row) {
        if (row.due() != null) {
            check.due(at, got, row.due());
        } else if (got.startsWith("throws")) {
            check.fault(at + " " + got);
        }
    }

    private static String view(List<Script.Row> run, Script.Row row) {
        Asker asker = new Asker(run);
        return switch (row.name()) {
            case "tree" -> asker.tree(OutlineDesk.ROOT);
            case "lines" -> asker.lines();
            case "items" -> asker.items();
            default -> asker.fields(row.args()[0]);
        };
    }

    private void behind(String at, List<Script.Row> run, Script.Row row) {
        if (!row.alone() || run.size() > Script.MOST_CALLS - 8) {
            return;
        }
        if (row.isRefused() || row.same()) {
            unchanged(at, run, row);
            unchangedElsewhere(at, run, row);
        } else if (row.isEdit()) {
            step(at, run, row);
        }
    }

    private static List<Script.Row> with(List<Script.Row> run, Script.Row row) {
        List<Script.Row> all = new ArrayList<>(run);
        all.add(row);
        return all;
    }

    private void unchanged(String at, List<Script.Row> run, Script.Row row) {
        same(at + " has changed something:", new Asker(with(run, row)).picture(), new Asker(run).picture());
    }

    private void unchangedElsewhere(String at, List<Script.Row> run, Script.Row row) {
        if (OF_STEPS.contains(row.name()) || isGrouped(run)) {
            return;
        }
        if (new Asker(run).about(1) < MOST_MADE) {
            again(at + ", with something to be redone,", Asker.with(run, "insert ROOT 0 7\nundo"), row);
        }
        if (row.isEdit()) {
            again(at + ", in a group,", Asker.with(run, "open"), row);
        }
    }

    private void again(String at, List<Script.Row> run, Script.Row row) {
        OutlineDesk desk = new OutlineDesk();
        for (Script.Row before : run) {
            Script.answer(desk, before);
        }
        answer(at, Script.answer(desk, row), row);
        unchanged(at, run, row);
    }

    private void step(String at, List<Script.Row> run, Script.Row row) {
        Asker before = new Asker(run);
        List<Script.Row> done = with(run, row);
        Asker after = new Asker(done);
        check.due(at + ": steps(1) behind it", after.steps(1), 0);
        if (isGrouped(run)) {
            check.due(at + ": steps(0) behind it in a group", after.steps(0), before.steps(0));
            check.due(at + ": steps(2) behind it", after.steps(2), before.steps(2) + 1);
            return;
        }
        check.due(at + ": steps(0) behind it", after.steps(0), Math.min(before.steps(0) + 1, MOST_STEPS));
        same(at + ": undone:", new Asker(Asker.with(done, "undo")).outline(), before.outline());
        same(at + ": redone:", new Asker(Asker.with(done, "undo\nredo")).outline(), after.outline());
    }

    /** Of two texts that differ the first line that does is told. */
    private void same(String at, String got, String want) {
        String[] gotLines = got.split("\n");
        String[] wantLines = want.split("\n");
        int line = 0;
        while (line < Math.min(gotLines.length, wantLines.length) && gotLines[line].equals(wantLines[line])) {
            line++;
        }
        check.due(at, line < gotLines.length ? gotLines[line] : "", line < wantLines.length ? wantLines[line] : "");
    }

    /** Whether a group is open behind a run, as its rows are due. */
    private static boolean isGrouped(List<Script.Row> run) {
        boolean open = false;
        for (Script.Row row : run) {
            if (!row.isRefused()) {
                open = row.name().equals("open") || open && !row.name().equals("close");
            }
        }
        return open;
    }
}
