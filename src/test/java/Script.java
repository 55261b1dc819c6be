import java.time.LocalDate;
import java.util.ArrayList;
import java.util.List;
import java.util.Set;
import java.util.regex.Matcher;
import java.util.regex.Pattern;

/**
 * A run of calls on a new object, one in a line, each with what is due:
 * <pre>
 *   insert ROOT 0 5 = 0          answers 0
 *   title 0 7                    throws nothing
 *   title 0 7 ~                  the same, and changes nothing
 *   title 0 -1 ! Argument        throws IllegalArgumentException, and changes nothing
 *   12* insert i-1 0 5           twelve calls, i being 0, 1, ..
 *   tree = 0(1 2) 3              which entries stand under which
 *   lines = 0 1 2                what line answers, one after another
 *   items = 3:100:1              what found answers: entry, day and date of each item
 *   fields 0 = -1 0 1 ..         what told answers for 0 .. 15
 *   # a remark
 * </pre>
 * Numbers may be written NONE, ROOT, MIN, MAX, LAST (the last day), true, false, as a day like
 * 2024-02-29, and with +1, -1 and the like behind a name or such a day.
 */
final class Script {
    static final int MOST_CALLS = 512;
    static final int LAST_DAY = 3652058;

    static final Set<String> EDITS = Set.of("insert", "remove", "move", "promote", "demote", "title", "state", "rank",
            "tag", "date", "minutes", "fold", "sort");
    private static final Set<String> VIEWS = Set.of("tree", "lines", "items", "fields");
    private static final Pattern LINE = Pattern.compile("(?:(\\d+)\\* )?(\\w+)((?: [^=!~\\s]+)*)(?: ([=!])(.*?))?( ~)?");
    private static final Pattern SUM = Pattern.compile("([A-Za-z]+|\\d{4}-\\d{2}-\\d{2})([+-]\\d+)");
    private static final long FIRST = LocalDate.of(1, 1, 1).toEpochDay();

    /** One call; due is null if any answer will do that is no exception. */
    record Row(String text, String name, int[] args, String due, boolean same, boolean alone) {
        boolean isView() {
            return VIEWS.contains(name);
        }

        boolean isEdit() {
            return EDITS.contains(name);
        }

        boolean isRefused() {
            return due != null && due.startsWith("throws ");
        }
    }

    private Script() {
    }

    static List<Row> rows(String text) {
        List<Row> rows = new ArrayList<>();
        for (String line : text.split("\n")) {
            String call = line.strip();
            if (!call.isEmpty() && !call.startsWith("#")) {
                addRows(call, rows);
            }
        }
        return rows;
    }

    private static void addRows(String line, List<Row> rows) {
        Matcher matcher = LINE.matcher(line);
        if (!matcher.matches()) {
            throw new IllegalArgumentException("not a row: " + line);
        }
        int times = matcher.group(1) == null ? 1 : Integer.parseInt(matcher.group(1));
        for (int i = 0; i < times; i++) {
            String[] words = matcher.group(3).isBlank() ? new String[0] : matcher.group(3).strip().split(" ");
            int[] args = new int[words.length];
            for (int w = 0; w < words.length; w++) {
                args[w] = number(words[w], i);
            }
            String name = matcher.group(2);
            String due = due(name, matcher.group(4), matcher.group(5), i);
            rows.add(new Row(line, name, args, due, matcher.group(6) != null, times == 1));
        }
    }

    private static String due(String name, String sign, String text, int i) {
        if (sign == null) {
            return null;
        }
        String due = text.strip();
        if (sign.equals("!")) {
            return "throws " + exception(due).getName();
        }
        return VIEWS.contains(name) ? due : Integer.toString(number(due, i));
    }

    private static Class<? extends RuntimeException> exception(String name) {
        return switch (name) {
            case "Index" -> Check.INDEX;
            case "State" -> Check.STATE;
            case "Argument" -> Check.ARGUMENT;
            case "Unsupported" -> Check.UNSUPPORTED;
            default -> throw new IllegalArgumentException(name);
        };
    }

    private static int number(String word, int i) {
        if (word.matches("\\d{4}-\\d{2}-\\d{2}")) {
            return (int) (LocalDate.parse(word).toEpochDay() - FIRST);
        }
        Matcher sum = SUM.matcher(word);
        if (sum.matches()) {
            return number(sum.group(1), i) + Integer.parseInt(sum.group(2));
        }
        return switch (word) {
            case "i" -> i;
            case "NONE", "ROOT" -> -1;
            case "LAST" -> LAST_DAY;
            case "MIN" -> Integer.MIN_VALUE;
            case "MAX" -> Integer.MAX_VALUE;
            case "true" -> 1;
            case "false" -> 0;
            default -> Integer.parseInt(word);
        };
    }

    static String answer(OutlineDesk desk, Row row) {
        return Check.answerOf(() -> call(desk, row.name, row.args));
    }

    private static long call(OutlineDesk desk, String name, int[] a) {
        switch (name) {
            case "move" -> desk.move(a[0], a[1], a[2]);
            case "promote" -> desk.promote(a[0]);
            case "demote" -> desk.demote(a[0]);
            case "title" -> desk.title(a[0], a[1]);
            case "rank" -> desk.rank(a[0], a[1]);
            case "tag" -> desk.tag(a[0], a[1], a[2] == 1);
            case "date" -> desk.date(a[0], a[1], a[2], a[3], a[4], a[5]);
            case "minutes" -> desk.minutes(a[0], a[1], a[2]);
            case "fold" -> desk.fold(a[0], a[1] == 1);
            case "sort" -> desk.sort(a[0], a[1]);
            case "open" -> desk.open();
            default -> {
                return answered(desk, name, a);
            }
        }
        return 0;
    }

    private static long answered(OutlineDesk desk, String name, int[] a) {
        return switch (name) {
            case "insert" -> desk.insert(a[0], a[1], a[2]);
            case "remove" -> desk.remove(a[0]);
            case "state" -> desk.state(a[0], a[1]);
            case "close" -> desk.close();
            case "undo" -> desk.undo() ? 1 : 0;
            case "redo" -> desk.redo() ? 1 : 0;
            case "steps" -> desk.steps(a[0]);
            case "today" -> desk.today(a[0]);
            case "day" -> desk.day(a[0], a[1], a[2]);
            case "calendar" -> desk.calendar(a[0], a[1]);
            case "match" -> desk.match(a[0], a[1], a[2], a[3]);
            case "agenda" -> desk.agenda(a[0], a[1]);
            case "found" -> desk.found(a[0], a[1]);
            case "line" -> desk.line(a[0]);
            case "child" -> desk.child(a[0], a[1]);
            case "sum" -> desk.sum(a[0], a[1]);
            case "told" -> desk.told(a[0], a[1]);
            case "about" -> desk.about(a[0]);
            default -> throw new IllegalStateException("no such call: " + name);
        };
    }
}
