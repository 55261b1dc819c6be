import java.util.Random;

/** Many random runs of calls, each answered by OutlineDesk and by PlainDesk alike. */
public final class ModelTest {
    private static final int RUNS = 2500;
    private static final int CALLS = 512;
    private static final int METHODS = 28;

    /** What a run is about: how often each method is called, in the order of the face. */
    private static final int[][] WEIGHTS = {
        // ins rem mov pro dem tit sta ran tag dat min fol sor ope clo und red ste tod day cal mat age fou lin chi sum tol abo
        {20, 2, 8, 5, 6, 3, 6, 3, 3, 6, 3, 3, 3, 2, 3, 6, 4, 3, 2, 1, 1, 3, 3, 8, 6, 4, 4, 14, 3},
        {60, 1, 6, 2, 8, 0, 0, 0, 0, 0, 0, 0, 1, 0, 0, 1, 1, 1, 0, 0, 0, 0, 0, 0, 4, 2, 2, 10, 2},
        {10, 1, 2, 1, 2, 1, 20, 3, 0, 24, 0, 0, 2, 1, 1, 3, 2, 1, 8, 0, 0, 0, 6, 16, 1, 1, 1, 16, 1},
        {10, 3, 8, 3, 4, 6, 3, 3, 3, 3, 3, 3, 6, 1, 1, 20, 16, 8, 1, 0, 0, 1, 1, 2, 4, 2, 2, 8, 2},
        {14, 2, 6, 3, 4, 4, 3, 3, 3, 3, 3, 3, 4, 8, 7, 8, 6, 8, 1, 0, 0, 1, 1, 2, 4, 2, 2, 8, 2},
        {14, 1, 3, 1, 3, 0, 6, 5, 14, 3, 2, 4, 3, 1, 1, 2, 1, 1, 1, 0, 0, 12, 3, 14, 6, 1, 1, 8, 2},
    };

    private final Random random;
    private final Check check;
    private final int[] weights;
    private final int wrongs;
    private final int reach;
    private final OutlineDesk desk = new OutlineDesk();
    private final PlainDesk plain = new PlainDesk();
    private int made;

    private ModelTest(long seed, Check check) {
        random = new Random(seed);
        this.check = check;
        weights = WEIGHTS[random.nextInt(WEIGHTS.length)];
        wrongs = random.nextBoolean() ? 40 : 12;
        reach = new int[] {40, 400, 400000, 3652059}[random.nextInt(4)];
    }

    /** A number from low to high, now and then one beside them or far off. */
    private int number(int low, int high) {
        if (random.nextInt(wrongs) == 0) {
            int[] others = {low - 1, high + 1, low, high, Integer.MIN_VALUE, Integer.MAX_VALUE, low - 2};
            return others[random.nextInt(others.length)];
        }
        return low + random.nextInt(high - low + 1);
    }

    private int id() {
        int recent = random.nextInt(3) == 0 ? Math.max(0, made - 3) : 0;
        return made == 0 ? number(-1, 0) : number(recent, made - 1);
    }

    private int parent() {
        return random.nextInt(4) == 0 ? -1 : id();
    }

    private int place(int parent, int less) {
        int children = 0;
        try {
            children = parent == -1 ? 3 : plain.told(parent, 8);
        } catch (IndexOutOfBoundsException e) {
            children = 2;
        }
        return number(0, Math.max(0, children - less));
    }

    private int day() {
        int low = reach > 3000000 && random.nextBoolean() ? 3652058 - 2000 : 0;
        return number(low, Math.min(low + reach, 3652058));
    }

    private int method() {
        int total = 0;
        for (int weight : weights) {
            total += weight;
        }
        int pick = random.nextInt(total);
        for (int method = 0; method < METHODS; method++) {
            pick -= weights[method];
            if (pick < 0) {
                return method;
            }
        }
        return METHODS;
    }

    private void same(String call, Check.Call ours, Check.Call theirs) {
        check.due(call, Check.answerOf(ours), Check.answerOf(theirs));
    }

    private static long bit(boolean b) {
        return b ? 1 : 0;
    }

    private static long done(Runnable call) {
        call.run();
        return 0;
    }

    private void edit(int method, String at) {
        int id = id();
        int parent = parent();
        int small = number(0, 1);
        boolean on = random.nextInt(3) > 0;
        switch (method) {
            case 0 -> {
                int place = place(parent, 0);
                int title = random.nextBoolean() ? number(0, 9) : number(0, 999999);
                same(at + "insert", () -> desk.insert(parent, place, title), () -> plain.insert(parent, place, title));
                made = plain.about(1);
            }
            case 1 -> same(at + "remove", () -> desk.remove(id), () -> plain.remove(id));
            case 2 -> {
                int place = place(parent, 1);
                same(at + "move", () -> done(() -> desk.move(id, parent, place)), () -> plain.move(id, parent, place));
            }
            case 3 -> same(at + "promote", () -> done(() -> desk.promote(id)), () -> plain.promote(id));
            case 4 -> same(at + "demote", () -> done(() -> desk.demote(id)), () -> plain.demote(id));
            case 5 -> {
                int title = number(0, 3);
                same(at + "title", () -> done(() -> desk.title(id, title)), () -> plain.title(id, title));
            }
            case 6 -> {
                int state = random.nextBoolean() ? 3 : number(0, 4);
                same(at + "state", () -> desk.state(id, state), () -> plain.state(id, state));
            }
            case 7 -> {
                int rank = number(0, 3);
                same(at + "rank", () -> done(() -> desk.rank(id, rank)), () -> plain.rank(id, rank));
            }
            case 8 -> {
                int bit = random.nextInt(3) > 0 ? number(0, 3) : number(0, 23);
                same(at + "tag", () -> done(() -> desk.tag(id, bit, on)), () -> plain.tag(id, bit, on));
            }
            case 9 -> {
                int day = random.nextInt(12) == 0 ? -1 : day();
                int kind = number(0, 3);
                int unit = number(0, 3);
                int count = random.nextBoolean() ? number(1, 99) : number(1, 3);
                same(at + "date", () -> done(() -> desk.date(id, small, day, kind, unit, count)),
                        () -> plain.date(id, small, day, kind, unit, count));
            }
            case 10 -> {
                int n = random.nextBoolean() ? number(0, 5) : number(0, 1000000);
                same(at + "minutes", () -> done(() -> desk.minutes(id, small, n)), () -> plain.minutes(id, small, n));
            }
            case 11 -> same(at + "fold", () -> done(() -> desk.fold(id, on)), () -> plain.fold(id, on));
            default -> {
                int by = number(0, 4);
                same(at + "sort", () -> done(() -> desk.sort(parent, by)), () -> plain.sort(parent, by));
            }
        }
    }

    private void ask(int method, String at) {
        int what = number(0, 4);
        switch (method) {
            case 13 -> same(at + "open", () -> done(desk::open), plain::open);
            case 14 -> same(at + "close", desk::close, plain::close);
            case 15 -> same(at + "undo", () -> bit(desk.undo()), plain::undo);
            case 16 -> same(at + "redo", () -> bit(desk.redo()), plain::redo);
            case 17 -> same(at + "steps", () -> desk.steps(what), () -> plain.steps(what));
            case 18 -> {
                int day = day();
                same(at + "today", () -> desk.today(day), () -> plain.today(day));
            }
            case 19 -> {
                int year = number(1, 9999);
                int month = number(1, 12);
                int day = number(1, 31);
                same(at + "day", () -> desk.day(year, month, day), () -> plain.day(year, month, day));
            }
            case 20 -> {
                int day = day();
                same(at + "calendar", () -> desk.calendar(day, what), () -> plain.calendar(day, what));
            }
            case 21 -> {
                int all = random.nextInt(8) & random.nextInt(8);
                int none = random.nextInt(20) == 0 ? random.nextInt() : random.nextInt(8) & random.nextInt(8);
                int states = random.nextInt(3) == 0 ? random.nextInt() : 31;
                int rank = number(0, 3);
                same(at + "match", () -> desk.match(all, none, states, rank), () -> plain.match(all, none, states, rank));
            }
            case 22 -> {
                int from = random.nextInt(3) > 0 ? 0 : day();
                int to = random.nextInt(3) > 0 ? 3652058 : day();
                same(at + "agenda", () -> desk.agenda(from, to), () -> plain.agenda(from, to));
            }
            case 23 -> {
                int i = number(0, Math.max(0, plain.about(2) - 1));
                same(at + "found", () -> desk.found(i, what), () -> plain.found(i, what));
            }
            case 24 -> {
                int i = number(0, Math.max(0, plain.about(0) - 1));
                same(at + "line", () -> desk.line(i), () -> plain.line(i));
            }
            case 25 -> {
                int parent = parent();
                int place = number(0, 3);
                same(at + "child", () -> desk.child(parent, place), () -> plain.child(parent, place));
            }
            case 26 -> {
                int id = parent();
                same(at + "sum", () -> desk.sum(id, what), () -> plain.sum(id, what));
            }
            case 27 -> {
                int id = id();
                int asked = number(0, 15);
                same(at + "told", () -> desk.told(id, asked), () -> plain.told(id, asked));
            }
            default -> same(at + "about", () -> desk.about(what), () -> plain.about(what));
        }
    }

    private void run(String name) {
        for (int call = 0; call < CALLS; call++) {
            int method = method();
            String at = name + ", call " + call + ": ";
            if (method <= 12) {
                edit(method, at);
            } else {
                ask(method, at);
            }
        }
    }

    public static void main(String[] args) {
        Check check = new Check();
        for (int seed = 0; seed < RUNS; seed++) {
            new ModelTest(seed, check).run("run " + seed);
        }
        check.end("ModelTest");
    }
}
