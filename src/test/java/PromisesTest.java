import java.util.ArrayList;
import java.util.Comparator;
import java.util.List;
import java.util.stream.Collectors;

/** A test or more for each promise of the document: ordinary inputs, the edges that it names, wrong inputs. */
public final class PromisesTest {
    private static final int NONE = OutlineDesk.NONE;
    private static final int ROOT = OutlineDesk.ROOT;
    private static final int LAST_DAY = 3652058;

    private static final Check CHECK = new Check();
    private static String promise = "";

    private static void due(String what, long got, long want) {
        CHECK.due(promise + ": " + what, got, want);
    }

    private static void due(String what, boolean got, boolean want) {
        due(what, got ? 1 : 0, want ? 1 : 0);
    }

    private static void due(String what, String got, String want) {
        CHECK.due(promise + ": " + what, got, want);
    }

    private static void index(String what, Runnable call) {
        dueThrow(what, Check.INDEX, call);
    }

    private static void state(String what, Runnable call) {
        dueThrow(what, Check.STATE, call);
    }

    private static void argument(String what, Runnable call) {
        dueThrow(what, Check.ARGUMENT, call);
    }

    private static void unsupported(String what, Runnable call) {
        dueThrow(what, Check.UNSUPPORTED, call);
    }

    private static void dueThrow(String what, Class<? extends RuntimeException> want, Runnable call) {
        CHECK.dueThrow(promise + ": " + what, want, () -> {
            call.run();
            return 0;
        });
    }

    /** The outline in the order, each entry with its children in brackets. */
    private static String tree(OutlineDesk desk) {
        return children(desk, ROOT);
    }

    private static String children(OutlineDesk desk, int parent) {
        StringBuilder text = new StringBuilder();
        for (int place = 0; desk.child(parent, place) != NONE; place++) {
            int id = desk.child(parent, place);
            text.append(place == 0 ? "" : " ").append(id);
            String under = children(desk, id);
            text.append(under.isEmpty() ? "" : "(" + under + ")");
        }
        return text.toString();
    }

    /** What told says of an entry from one number to another one. */
    private static String told(OutlineDesk desk, int id, int from, int to) {
        StringBuilder text = new StringBuilder();
        for (int what = from; what <= to; what++) {
            text.append(what == from ? "" : " ").append(desk.told(id, what));
        }
        return text.toString();
    }

    private static String found(OutlineDesk desk) {
        StringBuilder text = new StringBuilder();
        for (int i = 0; i < desk.about(2); i++) {
            text.append(i == 0 ? "" : " ").append(desk.found(i, 0)).append(':').append(desk.found(i, 1))
                    .append(':').append(desk.found(i, 2));
        }
        return text.toString();
    }

    private static String lines(OutlineDesk desk) {
        StringBuilder text = new StringBuilder();
        for (int i = 0; desk.line(i) != NONE; i++) {
            text.append(i == 0 ? "" : " ").append(desk.line(i));
        }
        return text.toString();
    }

    /** 0(1(2 3) 4) 5(6) */
    private static OutlineDesk small() {
        OutlineDesk desk = new OutlineDesk();
        desk.insert(ROOT, 0, 10);
        desk.insert(0, 0, 11);
        desk.insert(1, 0, 12);
        desk.insert(1, 1, 13);
        desk.insert(0, 1, 14);
        desk.insert(ROOT, 1, 15);
        desk.insert(5, 0, 16);
        return desk;
    }

    /** So many entries, each under the one before. */
    private static OutlineDesk chain(int size) {
        OutlineDesk desk = new OutlineDesk();
        for (int i = 0; i < size; i++) {
            desk.insert(i - 1, 0, i);
        }
        return desk;
    }

    /** So many entries under root, in the order of their numbers. */
    private static OutlineDesk flat(int size) {
        OutlineDesk desk = new OutlineDesk();
        for (int i = 0; i < size; i++) {
            desk.insert(ROOT, i, i);
        }
        return desk;
    }

    private static void promise1() {
        promise = "promise 1";
        OutlineDesk desk = new OutlineDesk();
        due("entries", desk.about(0), 0);
        due("made", desk.about(1), 0);
        due("found", desk.about(2), 0);
        due("today", desk.about(3), 0);
        due("first line", desk.line(0), NONE);
        due("first child", desk.child(ROOT, 0), NONE);
        due("all entries", desk.sum(ROOT, 0), 0);
        due("steps", desk.steps(0) + desk.steps(1) + desk.steps(2), 0);
        index("found(0, 0)", () -> desk.found(0, 0));
        index("told(0, 3)", () -> desk.told(0, 3));
        due("NONE", OutlineDesk.NONE, -1);
        due("ROOT", OutlineDesk.ROOT, -1);
    }

    private static void promise2() {
        promise = "promise 2";
        OutlineDesk desk = new OutlineDesk();
        due("first number", desk.insert(ROOT, 0, 0), 0);
        due("second number", desk.insert(ROOT, 0, 999999), 1);
        due("behind all", desk.insert(ROOT, 2, 5), 2);
        due("between", desk.insert(ROOT, 1, 5), 3);
        due("under one", desk.insert(0, 0, 7), 4);
        due("behind a branch", desk.insert(0, 1, 7), 5);
        due("tree", tree(desk), "1 3 0(4 5) 2");
        due("a new one", told(desk, 4, 0, 15), "0 0 2 7 0 0 0 0 0 0 -1 -1 0 0 0 0");
        index("no such parent", () -> desk.insert(6, 0, 5));
        index("parent -2", () -> desk.insert(-2, 0, 5));
        index("parent before place and title", () -> desk.insert(6, -1, -1));
        argument("place -1", () -> desk.insert(ROOT, -1, 5));
        argument("place above children", () -> desk.insert(ROOT, 5, 5));
        argument("place above children of one", () -> desk.insert(0, 3, 5));
        argument("title -1", () -> desk.insert(ROOT, 0, -1));
        argument("title 1000000", () -> desk.insert(ROOT, 0, 1000000));
        due("nothing changed", tree(desk) + desk.about(1) + desk.steps(0), "1 3 0(4 5) 266");
        desk.remove(0);
        index("a removed parent", () -> desk.insert(0, 0, 5));
        index("a parent under a removed one", () -> desk.insert(4, 0, 5));

        OutlineDesk deep = chain(12);
        unsupported("deeper than 12", () -> deep.insert(11, 0, 5));
        argument("place before depth", () -> deep.insert(11, 1, 5));
        argument("title before depth", () -> deep.insert(11, 0, -1));
        due("beside the deepest", deep.insert(10, 1, 5), 12);
        due("as deep as 12", deep.told(12, 2), 12);

        OutlineDesk full = flat(400);
        due("made", full.about(1), 400);
        unsupported("the 401st", () -> full.insert(ROOT, 0, 5));
        argument("place before number", () -> full.insert(ROOT, 401, 5));
        full.undo();
        due("one less", full.about(0), 399);
        unsupported("one whose making is undone counts", () -> full.insert(ROOT, 0, 5));
        full.redo();
        full.remove(7);
        unsupported("a removed one counts", () -> full.insert(ROOT, 0, 5));
    }

    private static void promise3() {
        promise = "promise 3";
        OutlineDesk desk = small();
        due("one alone", desk.remove(3), 1);
        due("a branch", desk.remove(0), 4);
        due("tree", tree(desk), "5(6)");
        index("gone", () -> desk.told(0, 3));
        index("gone with it", () -> desk.told(2, 3));
        index("removed before", () -> desk.remove(3));
        index("root", () -> desk.remove(ROOT));
        index("never made", () -> desk.remove(7));
        desk.undo();
        due("back", tree(desk), "0(1(2) 4) 5(6)");
        desk.undo();
        due("all back", tree(desk), "0(1(2 3) 4) 5(6)");
        due("the last branch", desk.remove(5), 2);
        due("the rest", desk.remove(0), 5);
        due("none", desk.about(0), 0);
        due("numbers go on", desk.insert(ROOT, 0, 5), 7);
    }

    private static void promise4() {
        promise = "promise 4";
        OutlineDesk desk = small();
        desk.move(1, 5, 1);
        due("behind another one", tree(desk), "0(4) 5(6 1(2 3))");
        desk.move(5, 0, 0);
        due("before another one", tree(desk), "0(5(6 1(2 3)) 4)");
        desk.move(1, ROOT, 1);
        due("to root", tree(desk), "0(5(6) 4) 1(2 3)");
        desk.move(1, ROOT, 0);
        due("among its own, counted without it", tree(desk), "1(2 3) 0(5(6) 4)");
        desk.move(1, ROOT, 1);
        due("behind its own", tree(desk), "0(5(6) 4) 1(2 3)");
        due("depths", desk.told(6, 2) * 10 + desk.told(3, 2), 32);
        int steps = desk.steps(0);
        desk.move(1, ROOT, 1);
        desk.move(5, 0, 0);
        due("no step where it is already", desk.steps(0), steps);
        index("not there", () -> desk.move(7, ROOT, 0));
        index("root", () -> desk.move(ROOT, 0, 0));
        index("the other one is not there", () -> desk.move(0, 7, 0));
        state("under itself", () -> desk.move(0, 0, 0));
        state("under one below it", () -> desk.move(0, 6, 0));
        state("branch before place", () -> desk.move(0, 6, -1));
        argument("place -1", () -> desk.move(1, 0, -1));
        argument("place above", () -> desk.move(1, 0, 3));
        argument("place above without it", () -> desk.move(1, ROOT, 2));
        due("nothing changed", tree(desk), "0(5(6) 4) 1(2 3)");

        OutlineDesk deep = chain(11);
        deep.insert(ROOT, 1, 5);
        deep.insert(11, 0, 5);
        unsupported("one under it would be deeper than 12", () -> deep.move(11, 10, 0));
        argument("place before depth", () -> deep.move(11, 10, 1));
        deep.move(11, 9, 0);
        due("as deep as 12", deep.told(12, 2), 12);
        unsupported("itself deeper than 12", () -> deep.move(10, 12, 0));
    }

    private static void promise5() {
        promise = "promise 5";
        OutlineDesk desk = small();
        desk.promote(2);
        due("behind its parent's branch", tree(desk), "0(1(3) 2 4) 5(6)");
        desk.promote(1);
        due("with its branch, before the next", tree(desk), "0(2 4) 1(3) 5(6)");
        due("depths", desk.told(1, 2) * 10 + desk.told(3, 2), 12);
        desk.promote(6);
        due("the last one", tree(desk), "0(2 4) 1(3) 5 6");
        state("under root", () -> desk.promote(0));
        index("not there", () -> desk.promote(7));
        index("root", () -> desk.promote(ROOT));
        desk.undo();
        due("undone", tree(desk), "0(2 4) 1(3) 5(6)");
    }

    private static void promise6() {
        promise = "promise 6";
        OutlineDesk desk = small();
        desk.demote(5);
        due("the last child of the one before", tree(desk), "0(1(2 3) 4 5(6))");
        desk.demote(4);
        due("behind its children", tree(desk), "0(1(2 3 4) 5(6))");
        due("depth", desk.told(6, 2), 3);
        state("the first one", () -> desk.demote(1));
        state("the first one under root", () -> desk.demote(0));
        index("not there", () -> desk.demote(7));
        index("root", () -> desk.demote(ROOT));
        desk.undo();
        due("undone", tree(desk), "0(1(2 3) 4 5(6))");

        OutlineDesk deep = chain(12);
        deep.insert(10, 1, 5);
        unsupported("itself deeper than 12", () -> deep.demote(12));
        state("the first one before depth", () -> deep.demote(11));
        deep.insert(9, 1, 5);
        deep.insert(13, 0, 5);
        unsupported("one under it deeper than 12", () -> deep.demote(13));
        deep.remove(14);
        deep.demote(13);
        due("as deep as 12", deep.told(13, 2), 12);
    }

    private static void promise7() {
        promise = "promise 7";
        OutlineDesk desk = small();
        desk.title(1, 0);
        due("the least", desk.told(1, 3), 0);
        desk.title(1, 999999);
        due("the greatest", desk.told(1, 3), 999999);
        due("steps", desk.steps(0), 9);
        desk.title(1, 999999);
        due("no step for the same", desk.steps(0), 9);
        index("not there", () -> desk.title(7, 1));
        index("root", () -> desk.title(ROOT, 1));
        index("entry before title", () -> desk.title(7, -1));
        argument("-1", () -> desk.title(1, -1));
        argument("1000000", () -> desk.title(1, 1000000));
        desk.undo();
        due("undone", desk.told(1, 3), 0);
        due("others stay", desk.told(2, 3), 12);
    }

    private static void promise8() {
        promise = "promise 8";
        OutlineDesk desk = small();
        for (int state = 4; state >= 0; state--) {
            due("state", desk.state(1, state), state);
            due("told", desk.told(1, 4), state);
        }
        int steps = desk.steps(0);
        due("the same", desk.state(1, 0), 0);
        due("no step for the same", desk.steps(0), steps);
        index("not there", () -> desk.state(7, 1));
        index("root", () -> desk.state(ROOT, 1));
        index("entry before state", () -> desk.state(7, 5));
        argument("-1", () -> desk.state(1, -1));
        argument("5", () -> desk.state(1, 5));

        desk.date(2, 0, 50, 0, 0, 0);
        due("done without a repeat", desk.state(2, 3), 3);
        due("a date without a repeat stays", desk.told(2, 10), 50);
        desk.date(2, 1, 60, 1, 1, 2);
        due("done with a repeat", desk.state(2, 3), 1);
        due("only the one with a repeat moves", told(desk, 2, 10, 15), "50 74 0 0 0 211");
        due("dropped", desk.state(2, 4), 4);
        due("no move but for 3", desk.told(2, 11), 74);
        desk.undo();
        desk.undo();
        due("state and dates are one step", told(desk, 2, 10, 11) + " " + desk.told(2, 4), "50 60 3");
        repeats();
        aboveTheLastDay();
    }

    private static int movedOnce(int today, int day, int kind, int unit, int count) {
        OutlineDesk desk = new OutlineDesk();
        desk.insert(ROOT, 0, 0);
        desk.today(today);
        desk.date(0, 0, day, kind, unit, count);
        due("answer", desk.state(0, 3), 1);
        return desk.told(0, 10);
    }

    private static int dayOf(int year, int month, int day) {
        return new OutlineDesk().day(year, month, day);
    }

    private static void repeats() {
        due("days", movedOnce(500, 100, 1, 0, 99), 199);
        due("weeks", movedOnce(500, 100, 1, 1, 99), 793);
        due("months", movedOnce(0, dayOf(2023, 1, 31), 1, 2, 1), dayOf(2023, 2, 28));
        due("months over the year", movedOnce(0, dayOf(2023, 11, 30), 1, 2, 3), dayOf(2024, 2, 29));
        due("years", movedOnce(0, dayOf(2024, 2, 29), 1, 3, 1), dayOf(2025, 2, 28));
        due("four years", movedOnce(0, dayOf(2024, 2, 29), 1, 3, 4), dayOf(2028, 2, 29));
        due("until: one step if above today", movedOnce(100, 150, 2, 0, 7), 157);
        due("until: one step that comes above", movedOnce(100, 94, 2, 0, 7), 101);
        due("until: not at today", movedOnce(101, 94, 2, 0, 7), 108);
        due("until: more", movedOnce(1000, 0, 2, 1, 1), 1001);
        due("until: a day in each step", movedOnce(LAST_DAY - 1, 0, 2, 0, 1), LAST_DAY);
        due("until: the day is cut for good", movedOnce(dayOf(2023, 3, 30), dayOf(2022, 12, 31), 2, 2, 1),
                dayOf(2023, 4, 28));
        due("until: never cut", movedOnce(dayOf(9998, 12, 30), dayOf(1, 1, 31), 2, 2, 12), dayOf(9999, 1, 31));
        due("until: cut once", movedOnce(dayOf(9998, 12, 30), dayOf(1, 1, 31), 2, 2, 2), dayOf(9999, 1, 30));
        due("until: at the day of today", movedOnce(dayOf(2023, 5, 10), dayOf(2023, 3, 10), 2, 2, 1),
                dayOf(2023, 6, 10));
        due("from today: days", movedOnce(500, 100, 3, 0, 5), 505);
        due("from today, also from a later day", movedOnce(500, 900, 3, 1, 1), 507);
        due("from today: months", movedOnce(dayOf(2023, 3, 31), 5, 3, 2, 1), dayOf(2023, 4, 30));
    }

    private static void aboveTheLastDay() {
        OutlineDesk desk = small();
        desk.date(1, 0, LAST_DAY - 1, 1, 0, 1);
        due("to the last day", desk.state(1, 3), 1);
        due("there", desk.told(1, 10), LAST_DAY);
        unsupported("above it", () -> desk.state(1, 3));
        desk.date(1, 1, 5, 1, 0, 1);
        desk.state(1, 2);
        int steps = desk.steps(0);
        unsupported("one of two above it", () -> desk.state(1, 3));
        due("nothing changed", told(desk, 1, 10, 11) + " " + desk.told(1, 4), LAST_DAY + " 5 2");
        due("no step", desk.steps(0), steps);
        desk.date(2, 1, LAST_DAY, 1, 0, 1);
        unsupported("due above it", () -> desk.state(2, 3));
        argument("state before day", () -> desk.state(1, 5));
        due("not done, so no move", desk.state(1, 4), 4);
        desk.date(1, 0, dayOf(9999, 1, 1), 1, 3, 99);
        unsupported("years above it", () -> desk.state(1, 3));
        desk.today(LAST_DAY);
        desk.date(1, 0, 0, 2, 2, 1);
        unsupported("until it is behind the last day", () -> desk.state(1, 3));
        desk.date(1, 0, 0, 3, 0, 1);
        unsupported("from the last day", () -> desk.state(1, 3));
        desk.date(1, 0, 7, 3, 0, 1);
        desk.today(6);
        desk.date(1, 1, NONE, 0, 0, 0);
        desk.state(1, 1);
        steps = desk.steps(0);
        due("moved to where it is", desk.state(1, 3), 1);
        due("no step for the same", desk.steps(0), steps);
    }

    private static void promise9() {
        promise = "promise 9";
        OutlineDesk desk = small();
        desk.rank(1, 3);
        due("the greatest", desk.told(1, 5), 3);
        desk.rank(1, 3);
        due("no step for the same", desk.steps(0), 8);
        desk.rank(1, 0);
        due("the least", desk.told(1, 5), 0);
        index("not there", () -> desk.rank(7, 1));
        index("root", () -> desk.rank(ROOT, 1));
        index("entry before rank", () -> desk.rank(7, 4));
        argument("-1", () -> desk.rank(1, -1));
        argument("4", () -> desk.rank(1, 4));
        desk.undo();
        due("undone", desk.told(1, 5), 3);
    }

    private static void promise10() {
        promise = "promise 10";
        OutlineDesk desk = small();
        desk.tag(1, 0, true);
        desk.tag(1, 23, true);
        due("first and last", desk.told(1, 6), 1 | 1 << 23);
        desk.tag(1, 0, true);
        desk.tag(1, 5, false);
        due("no step for the same", desk.steps(0), 9);
        desk.tag(1, 0, false);
        due("off", desk.told(1, 6), 1 << 23);
        due("not one of those under it", desk.told(2, 6), 0);
        due("but of all its tags", desk.told(2, 7), 1 << 23);
        index("not there", () -> desk.tag(7, 1, true));
        index("root", () -> desk.tag(ROOT, 1, true));
        index("entry before bit", () -> desk.tag(7, 24, true));
        argument("-1", () -> desk.tag(1, -1, true));
        argument("24", () -> desk.tag(1, 24, false));
        desk.undo();
        due("undone", desk.told(1, 6), 1 | 1 << 23);
    }

    private static void promise11() {
        promise = "promise 11";
        OutlineDesk desk = small();
        desk.date(1, 0, 0, 0, 9, -9);
        desk.date(1, 1, LAST_DAY, 3, 3, 99);
        due("both", told(desk, 1, 10, 15), "0 3652058 0 0 0 9933");
        desk.date(1, 0, 0, 0, 1, 1);
        due("no step for the same", desk.steps(0), 9);
        desk.date(1, 1, LAST_DAY, 1, 0, 1);
        due("another repeat", desk.told(1, 15), 101);
        desk.date(1, 1, NONE, 9, 9, 9);
        due("none", told(desk, 1, 10, 15), "0 -1 0 0 0 0");
        desk.undo();
        due("undone", told(desk, 1, 10, 15), "0 3652058 0 0 0 101");
        index("not there", () -> desk.date(7, 0, 0, 0, 0, 0));
        index("root", () -> desk.date(ROOT, 0, 0, 0, 0, 0));
        index("entry before numbers", () -> desk.date(7, 2, -2, 4, 4, 0));
        argument("which -1", () -> desk.date(1, -1, 0, 0, 0, 0));
        argument("which 2", () -> desk.date(1, 2, 0, 0, 0, 0));
        argument("which 2 for none", () -> desk.date(1, 2, NONE, 0, 0, 0));
        argument("day -2", () -> desk.date(1, 0, -2, 0, 0, 0));
        argument("a day above the last", () -> desk.date(1, 0, LAST_DAY + 1, 0, 0, 0));
        argument("kind -1", () -> desk.date(1, 0, 0, -1, 0, 1));
        argument("kind 4", () -> desk.date(1, 0, 0, 4, 0, 1));
        argument("unit -1", () -> desk.date(1, 0, 0, 1, -1, 1));
        argument("unit 4", () -> desk.date(1, 0, 0, 1, 4, 1));
        argument("count 0", () -> desk.date(1, 0, 0, 1, 0, 0));
        argument("count 100", () -> desk.date(1, 0, 0, 1, 0, 100));
        due("nothing changed", told(desk, 1, 10, 15), "0 3652058 0 0 0 101");
    }

    private static void promise12() {
        promise = "promise 12";
        OutlineDesk desk = small();
        desk.minutes(1, 0, 1000000);
        desk.minutes(1, 1, 7);
        due("both", told(desk, 1, 12, 13), "1000000 7");
        desk.minutes(1, 1, 7);
        due("no step for the same", desk.steps(0), 9);
        desk.minutes(1, 0, 0);
        due("none", desk.told(1, 12), 0);
        index("not there", () -> desk.minutes(7, 0, 0));
        index("root", () -> desk.minutes(ROOT, 0, 0));
        index("entry before numbers", () -> desk.minutes(7, 2, -1));
        argument("which -1", () -> desk.minutes(1, -1, 0));
        argument("which 2", () -> desk.minutes(1, 2, 0));
        argument("-1", () -> desk.minutes(1, 0, -1));
        argument("1000001", () -> desk.minutes(1, 1, 1000001));
        desk.undo();
        due("undone", told(desk, 1, 12, 13), "1000000 7");
    }

    private static void promise13() {
        promise = "promise 13";
        OutlineDesk desk = small();
        desk.fold(1, true);
        due("folded", desk.told(1, 9), 1);
        desk.fold(1, true);
        desk.fold(2, false);
        due("no step for the same", desk.steps(0), 8);
        desk.fold(1, false);
        due("not folded", desk.told(1, 9), 0);
        index("not there", () -> desk.fold(7, true));
        index("root", () -> desk.fold(ROOT, true));
        desk.undo();
        due("undone", desk.told(1, 9), 1);
    }

    private static void promise14() {
        promise = "promise 14";
        OutlineDesk desk = flat(4);
        desk.title(0, 9);
        desk.title(2, 1);
        desk.insert(0, 0, 0);
        desk.insert(0, 0, 0);
        desk.sort(ROOT, 0);
        due("by title, branches whole, equal ones as they were", tree(desk), "1 2 3 0(5 4)");
        int steps = desk.steps(0);
        desk.sort(ROOT, 0);
        desk.sort(0, 0);
        desk.sort(1, 0);
        due("no step for what is sorted", desk.steps(0), steps);
        desk.undo();
        due("undone", tree(desk), "0(5 4) 1 2 3");

        desk.state(0, 4);
        desk.state(1, 1);
        desk.state(3, 1);
        desk.sort(ROOT, 1);
        due("by state", tree(desk), "2 1 3 0(5 4)");
        desk.rank(3, 3);
        desk.rank(0, 1);
        desk.rank(1, 1);
        desk.sort(ROOT, 2);
        due("by rank, the greatest first", tree(desk), "3 1 0(5 4) 2");
        desk.date(2, 1, 0, 0, 0, 0);
        desk.date(0, 1, LAST_DAY, 0, 0, 0);
        desk.date(3, 0, 5, 0, 0, 0);
        desk.sort(ROOT, 3);
        due("by due day, none last", tree(desk), "2 0(5 4) 3 1");
        desk.minutes(4, 0, 3);
        desk.minutes(5, 0, 3);
        desk.minutes(1, 0, 5);
        desk.minutes(3, 1, 50);
        desk.sort(ROOT, 4);
        due("by the effort of branches, the greatest first", tree(desk), "0(5 4) 1 2 3");
        desk.title(5, 1);
        desk.sort(0, 0);
        due("under an entry alone", tree(desk), "0(4 5) 1 2 3");
        index("not there", () -> desk.sort(6, 0));
        index("-2", () -> desk.sort(-2, 0));
        index("entry before by", () -> desk.sort(6, 5));
        argument("-1", () -> desk.sort(ROOT, -1));
        argument("5", () -> desk.sort(ROOT, 5));
    }

    /** Keys that go up and down, some of them equal. */
    private static int scrambled(int i, int size) {
        return i * i * 31 % (size + 7);
    }

    private static void promise14LongRows() {
        promise = "promise 14";
        for (int size = 1; size <= 165; size += size < 60 ? 1 : 35) {
            OutlineDesk desk = new OutlineDesk();
            List<Integer> order = new ArrayList<>();
            for (int i = 0; i < size; i++) {
                desk.insert(ROOT, i, scrambled(i, size));
                order.add(i);
            }
            int asked = size;
            desk.sort(ROOT, 0);
            order.sort(Comparator.comparingInt(i -> scrambled(i, asked)));
            due(size + " by title", lines(desk), words(order));
        }
        for (int size = 1; size <= 120; size += size < 60 ? 1 : 30) {
            OutlineDesk desk = flat(size);
            List<Integer> order = new ArrayList<>();
            for (int i = 0; i < size; i++) {
                desk.minutes(i, 0, scrambled(i, size));
                order.add(i);
            }
            int asked = size;
            desk.sort(ROOT, 4);
            order.sort(Comparator.comparingInt(i -> -scrambled(i, asked)));
            due(size + " by effort", lines(desk), words(order));
        }
    }

    private static String words(List<?> items) {
        return items.stream().map(Object::toString).collect(Collectors.joining(" "));
    }

    private static void promise15() {
        promise = "promise 15";
        OutlineDesk desk = small();
        desk.undo();
        desk.open();
        state("open already", desk::open);
        due("what can be redone stays", desk.steps(1), 1);
        desk.title(1, 1);
        due("until an edit changes something", desk.steps(1), 0);
        desk.close();
        desk.open();
        due("once more after close", desk.close(), 7);
    }

    private static void promise16() {
        promise = "promise 16";
        OutlineDesk desk = small();
        state("none open", desk::close);
        desk.open();
        desk.title(1, 1);
        desk.remove(5);
        desk.move(1, ROOT, 1);
        due("one step", desk.close(), 8);
        state("closed already", desk::close);
        desk.undo();
        due("undone together", tree(desk) + " " + desk.told(1, 3), "0(1(2 3) 4) 5(6) 11");
        desk.redo();
        due("done again together", tree(desk) + " " + desk.told(1, 3), "0(4) 1(2 3) 1");
        desk.undo();
        desk.open();
        desk.title(1, 11);
        due("no step where nothing changed", desk.close(), 7);
        due("what can be redone stays", desk.steps(1), 1);
        desk.open();
        desk.title(1, 12);
        desk.title(1, 11);
        due("one step also if all is brought back", desk.close(), 8);
        due("nothing to be redone then", desk.steps(1), 0);
        due("undone", desk.undo(), true);
        due("the same", desk.told(1, 3), 11);
        due("to be redone", desk.steps(1), 1);
    }

    private static void promise17() {
        promise = "promise 17";
        OutlineDesk desk = new OutlineDesk();
        due("none", desk.undo(), false);
        desk.insert(ROOT, 0, 1);
        desk.insert(0, 0, 2);
        due("one", desk.undo(), true);
        due("the latest", tree(desk), "0");
        due("another", desk.undo(), true);
        due("all", desk.about(0), 0);
        due("none left", desk.undo(), false);
        desk.open();
        state("open", desk::undo);
        desk.close();
        for (int i = 0; i < 70; i++) {
            desk.insert(ROOT, i, i);
        }
        int undone = 0;
        while (undone < 100 && desk.undo()) {
            undone++;
        }
        due("the latest 60", undone, 60);
        due("the rest stays", desk.about(0), 10);
        OutlineDesk free = new OutlineDesk();
        free.today(9);
        free.insert(ROOT, 0, 1);
        free.match(0, 0, 31, 0);
        free.today(10);
        free.undo();
        due("today, found and made stay", free.about(3) * 100 + free.about(2) * 10 + free.about(1), 1011);
    }

    private static void promise18() {
        promise = "promise 18";
        OutlineDesk desk = small();
        due("nothing", desk.redo(), false);
        desk.title(0, 1);
        desk.title(0, 2);
        desk.undo();
        desk.undo();
        due("one", desk.redo(), true);
        due("the one undone latest", desk.told(0, 3), 1);
        desk.open();
        state("open", desk::redo);
        desk.close();
        due("another", desk.redo(), true);
        due("the next", desk.told(0, 3), 2);
        due("nothing left", desk.redo(), false);
        desk.undo();
        desk.title(0, 1);
        due("an edit that changes nothing leaves it", desk.steps(1), 1);
        desk.title(0, 5);
        due("a new step ends it", desk.redo(), false);
        desk.undo();
        due("an insert undone", desk.insert(ROOT, 0, 77), 7);
        desk.undo();
        index("is not there", () -> desk.told(7, 3));
        desk.redo();
        due("redone with its number", desk.told(7, 3), 77);
        for (int i = 0; i < 60; i++) {
            desk.title(0, 100 + i);
        }
        int undone = 0;
        while (undone < 100 && desk.undo()) {
            undone++;
        }
        int redone = 0;
        while (redone < 100 && desk.redo()) {
            redone++;
        }
        due("60 back and forth", undone * 100 + redone, 6060);
        due("the latest title", desk.told(0, 3), 159);
        desk.date(0, 0, 10, 3, 0, 1);
        desk.today(100);
        desk.state(0, 3);
        desk.undo();
        desk.today(200);
        desk.redo();
        due("what was done comes again, whatever today is", desk.told(0, 10), 101);
    }

    private static void promise19() {
        promise = "promise 19";
        OutlineDesk desk = small();
        due("undone", desk.steps(0), 7);
        due("redone", desk.steps(1), 0);
        due("group", desk.steps(2), 0);
        desk.undo();
        desk.undo();
        due("after undo", desk.steps(0) * 10 + desk.steps(1), 52);
        desk.open();
        desk.title(0, 1);
        desk.title(0, 1);
        desk.title(0, 2);
        due("in a group", desk.steps(0) * 100 + desk.steps(1) * 10 + desk.steps(2), 502);
        desk.close();
        due("after it", desk.steps(0) * 100 + desk.steps(1) * 10 + desk.steps(2), 600);
        argument("-1", () -> desk.steps(-1));
        argument("3", () -> desk.steps(3));
        for (int i = 0; i < 70; i++) {
            desk.rank(0, i % 3 + 1);
        }
        due("60 at most", desk.steps(0), 60);
        desk.open();
        desk.title(0, 77);
        due("60 in a group", desk.steps(0), 60);
        due("60 after it", desk.close(), 60);
        desk.undo();
        due("that group", desk.told(0, 3), 2);
    }

    private static void promise20() {
        promise = "promise 20";
        OutlineDesk desk = small();
        due("at first", desk.today(LAST_DAY), 0);
        due("then", desk.today(0), LAST_DAY);
        argument("-1", () -> desk.today(-1));
        argument("above the last day", () -> desk.today(LAST_DAY + 1));
        due("stays", desk.today(5), 0);
        due("no step", desk.steps(0), 7);
        desk.undo();
        due("not undone", desk.about(3), 5);
        due("redo stays", desk.today(7) + desk.steps(1), 6);
    }

    private static void promise21() {
        promise = "promise 21";
        OutlineDesk desk = new OutlineDesk();
        due("the first", desk.day(1, 1, 1), 0);
        due("the last", desk.day(9999, 12, 31), LAST_DAY);
        due("February 29", desk.day(2024, 2, 29), 738944);
        due("of 2000", desk.day(2000, 2, 29), 730178);
        due("March 1", desk.day(1900, 3, 1), desk.day(1900, 2, 28) + 1);
        argument("February 29 of 2023", () -> desk.day(2023, 2, 29));
        argument("of 1900", () -> desk.day(1900, 2, 29));
        argument("February 30", () -> desk.day(2024, 2, 30));
        argument("April 31", () -> desk.day(2024, 4, 31));
        argument("day 32", () -> desk.day(2024, 1, 32));
        argument("day 0", () -> desk.day(2024, 1, 0));
        argument("month 0", () -> desk.day(2024, 0, 1));
        argument("month 13", () -> desk.day(2024, 13, 1));
        argument("year 0", () -> desk.day(0, 1, 1));
        argument("year 10000", () -> desk.day(10000, 1, 1));
        argument("far off", () -> desk.day(Integer.MIN_VALUE, Integer.MAX_VALUE, Integer.MIN_VALUE));
    }

    private static void promise22() {
        promise = "promise 22";
        OutlineDesk desk = new OutlineDesk();
        int day = desk.day(2024, 12, 31);
        due("year", desk.calendar(day, 0), 2024);
        due("month", desk.calendar(day, 1), 12);
        due("day in it", desk.calendar(day, 2), 31);
        due("a Tuesday", desk.calendar(day, 3), 1);
        due("the first one is a Monday", desk.calendar(0, 3), 0);
        due("the last one is a Friday", desk.calendar(LAST_DAY, 3), 4);
        due("February 29", desk.calendar(738944, 1) * 100 + desk.calendar(738944, 2), 229);
        argument("day -1", () -> desk.calendar(-1, 0));
        argument("a day above the last", () -> desk.calendar(LAST_DAY + 1, 0));
        argument("what -1", () -> desk.calendar(0, -1));
        argument("what 4", () -> desk.calendar(0, 4));
    }

    private static void promise23() {
        promise = "promise 23";
        OutlineDesk desk = small();
        due("all", desk.match(0, 0, 31, 0), 7);
        due("in the order", found(desk), "0:-1:-1 1:-1:-1 2:-1:-1 3:-1:-1 4:-1:-1 5:-1:-1 6:-1:-1");
        desk.move(5, ROOT, 0);
        desk.match(0, 0, -1, Integer.MIN_VALUE);
        due("in the new order", found(desk), "5:-1:-1 6:-1:-1 0:-1:-1 1:-1:-1 2:-1:-1 3:-1:-1 4:-1:-1");
        desk.tag(1, 0, true);
        desk.tag(2, 1, true);
        desk.tag(6, 1, true);
        due("a tag from above", desk.match(1, 0, 31, 0), 3);
        due("one alone", desk.match(2, 0, 31, 0), 2);
        due("all of two", desk.match(3, 0, 31, 0), 1);
        due("that one", found(desk), "2:-1:-1");
        due("none of one", desk.match(0, 1, 31, 0), 4);
        due("one but not another", desk.match(1, 2, 31, 0), 2);
        due("a bit that no tag has", desk.match(1 << 24, 0, 31, 0), 0);
        due("none of such", desk.match(0, 1 << 31, 31, 0), 7);
        desk.state(2, 4);
        desk.state(3, 2);
        due("states", desk.match(0, 0, 1 << 4 | 1 << 2, 0), 2);
        due("no state", desk.match(0, 0, 0, 0), 0);
        due("no such state", desk.match(0, 0, ~31, 0), 0);
        desk.rank(3, 3);
        desk.rank(4, 2);
        due("rank 2 or more", desk.match(0, 0, 31, 2), 2);
        due("rank 3", desk.match(0, 0, 31, 3), 1);
        due("rank 4", desk.match(0, 0, 31, 4), 0);
        desk.fold(0, true);
        due("folded ones too", desk.match(0, 0, 31, 0), 7);
        int steps = desk.steps(0);
        desk.match(0, 0, 31, 0);
        due("no step", desk.steps(0), steps);
    }

    private static void promise24() {
        promise = "promise 24";
        OutlineDesk desk = small();
        due("without dates", desk.agenda(0, LAST_DAY), 0);
        desk.today(100);
        desk.date(6, 0, 100, 0, 0, 0);
        desk.date(4, 0, 7, 0, 0, 0);
        desk.date(2, 1, 99, 0, 0, 0);
        desk.date(1, 1, 101, 0, 0, 0);
        desk.date(1, 0, 101, 0, 0, 0);
        desk.date(3, 0, 101, 0, 0, 0);
        desk.rank(3, 1);
        due("all", desk.agenda(0, LAST_DAY), 6);
        due("days, due, rank, order", found(desk), "2:100:1 4:100:0 6:100:0 1:101:1 3:101:0 1:101:0");
        due("from a day on", desk.agenda(101, LAST_DAY), 3);
        due("to a day", desk.agenda(Integer.MIN_VALUE, 100), 3);
        due("before today none", desk.agenda(0, 99), 0);
        due("a day alone", desk.agenda(101, 101), 3);
        due("from after to", desk.agenda(102, 100), 0);
        due("found none", desk.about(2), 0);
        desk.state(1, 3);
        desk.state(4, 4);
        desk.state(2, 2);
        desk.state(6, 1);
        due("not those closed", desk.agenda(0, Integer.MAX_VALUE), 3);
        due("but those under them", found(desk), "2:100:1 6:100:0 3:101:0");
        desk.today(102);
        desk.agenda(0, LAST_DAY);
        due("all at today then", found(desk), "2:102:1 3:102:0 6:102:0");
        desk.today(0);
        desk.date(6, 1, 0, 0, 0, 0);
        desk.date(6, 0, LAST_DAY, 0, 0, 0);
        desk.agenda(0, LAST_DAY);
        due("first and last day", found(desk), "6:0:1 2:99:1 3:101:0 6:3652058:0");
    }

    private static void promise24LongRows() {
        promise = "promise 24";
        for (int size = 1; size <= 70; size++) {
            OutlineDesk desk = flat(size);
            List<int[]> items = new ArrayList<>();
            for (int i = 0; i < size; i++) {
                desk.date(i, i % 2, scrambled(i, size), 0, 0, 0);
                desk.rank(i, i % 3);
                items.add(new int[] {i, scrambled(i, size), i % 2, i % 3});
            }
            items.sort(Comparator.<int[]>comparingInt(i -> i[1]).thenComparingInt(i -> -i[2]).thenComparingInt(i -> -i[3]));
            due(size + " dates", desk.agenda(0, LAST_DAY), size);
            due(size + " dates in order", found(desk), words(items.stream().map(i -> i[0] + ":" + i[1] + ":" + i[2]).toList()));
        }
    }

    private static void promise25() {
        promise = "promise 25";
        OutlineDesk desk = small();
        desk.date(2, 1, 9, 0, 0, 0);
        desk.agenda(0, 10);
        due("entry, day, date", found(desk), "2:9:1");
        index("item 1", () -> desk.found(1, 0));
        index("item -1", () -> desk.found(-1, 0));
        index("item before what", () -> desk.found(1, 3));
        argument("what 3", () -> desk.found(0, 3));
        argument("what -1", () -> desk.found(0, -1));
        desk.date(2, 1, 10, 0, 0, 0);
        desk.remove(2);
        desk.today(50);
        due("it stays", found(desk), "2:9:1");
        desk.undo();
        due("it stays when undone", found(desk), "2:9:1");
        desk.match(0, 0, 31, 0);
        due("what was found latest", desk.found(6, 0) * 100 + desk.found(6, 1) * 10 + desk.found(6, 2), 589);
    }

    private static void promise26() {
        promise = "promise 26";
        OutlineDesk desk = small();
        due("all", lines(desk), "0 1 2 3 4 5 6");
        desk.fold(1, true);
        due("folded", lines(desk), "0 1 4 5 6");
        desk.fold(0, true);
        due("above it too", lines(desk), "0 5 6");
        desk.fold(5, true);
        desk.fold(0, false);
        due("folded again below", lines(desk), "0 1 4 5");
        desk.fold(4, true);
        due("folded without children", lines(desk), "0 1 4 5");
        due("behind the last", desk.line(4), NONE);
        due("-1", desk.line(-1), NONE);
        due("far off", desk.line(Integer.MAX_VALUE), NONE);
    }

    private static void promise27() {
        promise = "promise 27";
        OutlineDesk desk = small();
        due("of root", desk.child(ROOT, 1), 5);
        due("of an entry", desk.child(0, 1), 4);
        due("not a child's child", desk.child(0, 2), NONE);
        due("-1", desk.child(0, -1), NONE);
        due("no children", desk.child(6, 0), NONE);
        due("far off", desk.child(ROOT, Integer.MAX_VALUE), NONE);
        index("not there", () -> desk.child(7, 0));
        index("-2", () -> desk.child(-2, 0));
        desk.remove(5);
        index("removed", () -> desk.child(5, 0));
        due("folded ones too", desk.child(0, 0), 1);
    }

    private static void promise28() {
        promise = "promise 28";
        OutlineDesk desk = small();
        for (int id = 0; id < 7; id++) {
            desk.minutes(id, 0, 1 << id);
            desk.minutes(id, 1, 1000000);
        }
        desk.state(1, 3);
        desk.state(2, 4);
        desk.state(3, 2);
        desk.state(6, 1);
        due("entries", desk.sum(0, 0) * 100 + desk.sum(1, 0) * 10 + desk.sum(6, 0), 531);
        due("all entries", desk.sum(ROOT, 0), 7);
        due("effort", desk.sum(1, 1), 2 + 4 + 8);
        due("all effort", desk.sum(ROOT, 1), 127);
        due("spent", desk.sum(5, 2), 2000000);
        due("closed", desk.sum(1, 3) * 10 + desk.sum(5, 3), 20);
        due("not plain", desk.sum(0, 4) * 10 + desk.sum(5, 4), 31);
        due("all not plain", desk.sum(ROOT, 4), 4);
        index("not there", () -> desk.sum(7, 0));
        index("-2", () -> desk.sum(-2, 0));
        index("entry before what", () -> desk.sum(7, 5));
        argument("-1", () -> desk.sum(0, -1));
        argument("5", () -> desk.sum(ROOT, 5));
    }

    private static void promise29() {
        promise = "promise 29";
        OutlineDesk desk = small();
        desk.state(1, 2);
        desk.rank(1, 3);
        desk.tag(0, 2, true);
        desk.tag(1, 1, true);
        desk.tag(4, 5, true);
        desk.fold(1, true);
        desk.date(1, 0, 20, 1, 2, 3);
        desk.date(1, 1, 30, 2, 3, 99);
        desk.minutes(1, 0, 40);
        desk.minutes(1, 1, 50);
        due("all", told(desk, 1, 0, 15), "0 0 2 11 2 3 2 6 2 1 20 30 40 50 321 9932");
        due("under root", told(desk, 5, 0, 2), "-1 1 1");
        due("a later place", told(desk, 4, 0, 2), "0 1 2");
        due("a first place behind others as deep", told(desk, 6, 0, 2), "5 0 2");
        due("tags of those above alone", desk.told(2, 7) * 100 + desk.told(4, 7), 636);
        index("not there", () -> desk.told(7, 0));
        index("root", () -> desk.told(ROOT, 0));
        index("entry before what", () -> desk.told(7, 16));
        argument("-1", () -> desk.told(1, -1));
        argument("16", () -> desk.told(1, 16));
    }

    private static void promise30() {
        promise = "promise 30";
        OutlineDesk desk = small();
        desk.remove(1);
        desk.today(77);
        desk.match(0, 0, 31, 0);
        desk.remove(5);
        due("there", desk.about(0), 2);
        due("made", desk.about(1), 7);
        due("found", desk.about(2), 4);
        due("today", desk.about(3), 77);
        argument("-1", () -> desk.about(-1));
        argument("4", () -> desk.about(4));
        desk.undo();
        desk.undo();
        desk.undo();
        due("undone", desk.about(0) * 10 + desk.about(1), 67);
    }

    public static void main(String[] args) {
        promise1();
        promise2();
        promise3();
        promise4();
        promise5();
        promise6();
        promise7();
        promise8();
        promise9();
        promise10();
        promise11();
        promise12();
        promise13();
        promise14();
        promise14LongRows();
        promise15();
        promise16();
        promise17();
        promise18();
        promise19();
        promise20();
        promise21();
        promise22();
        promise23();
        promise24();
        promise24LongRows();
        promise25();
        promise26();
        promise27();
        promise28();
        promise29();
        promise30();
        CHECK.end("PromisesTest");
    }
}
