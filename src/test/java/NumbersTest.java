/**
 * The number of an entry says nothing of where it stands: each call on an outline whose numbers are
 * not in the order, and whose depths differ from those of their neighbours. Also what depends on
 * how many entries and steps there are, where rows inside the object grow.
 */
public final class NumbersTest {
    private static final int ROOT = OutlineDesk.ROOT;
    private static final int MOST_MADE = 400;

    /** Six entries, no depth of which is that of the entry whose place in the order is its number, but for 0. */
    private static final String SHUFFLED = """
            insert ROOT 0 5 = 0
            insert ROOT 0 5 = 1
            insert 0 0 5 = 2
            insert 2 0 5 = 3
            insert ROOT 0 5 = 4
            insert 4 0 5 = 5
            """;

    private static final Check CHECK = new Check();
    private static final Runs RUNS = new Runs(CHECK);

    private static void play(String name, String script) {
        RUNS.play("numbers: " + name, SHUFFLED + script);
    }

    private static void asked() {
        play("told, line and child", """
                tag 0 0 true
                tag 4 4 true
                tag 3 3 true
                fields 0 = -1 2 1 5 0 0 1 1 1 0 -1 -1 0 0 0 0
                fields 1 = -1 1 1 5 0 0 0 0 0 0 -1 -1 0 0 0 0
                fields 2 = 0 0 2 5 0 0 0 1 1 0 -1 -1 0 0 0 0
                fields 3 = 2 0 3 5 0 0 8 9 0 0 -1 -1 0 0 0 0
                fields 4 = -1 0 1 5 0 0 16 16 1 0 -1 -1 0 0 0 0
                fields 5 = 4 0 2 5 0 0 0 16 0 0 -1 -1 0 0 0 0
                lines = 4 5 1 0 2 3
                tree = 4(5) 1 0(2(3))
                fold 4 true
                fold 2 true
                lines = 4 1 0 2
                """);
        play("sum", """
                minutes 3 0 7
                minutes 5 1 9
                state 2 1 = 1
                state 1 4 = 4
                sum 0 0 = 3
                sum 0 1 = 7
                sum 0 4 = 1
                sum 1 0 = 1
                sum 1 3 = 1
                sum 2 0 = 2
                sum 2 1 = 7
                sum 3 0 = 1
                sum 3 4 = 0
                sum 4 0 = 2
                sum 4 1 = 0
                sum 4 2 = 9
                sum 5 0 = 1
                sum 5 2 = 9
                """);
        play("match and agenda", """
                state 3 1 = 1
                rank 5 2
                rank 2 1
                tag 0 6 true
                match 0 0 2 0 = 1
                items = 3:-1:-1
                match 0 0 31 2 = 1
                items = 5:-1:-1
                match 0 0 31 1 = 2
                items = 5:-1:-1 2:-1:-1
                match 64 0 1 0 = 2
                items = 0:-1:-1 2:-1:-1
                date 3 1 10 0 0 0
                date 0 1 10 0 0 0
                date 4 0 10 0 0 0
                date 5 0 10 0 0 0
                date 1 1 9 0 0 0
                agenda 0 LAST = 5
                items = 1:9:1 0:10:1 3:10:1 5:10:0 4:10:0
                state 0 3 = 3
                agenda 0 LAST = 4
                items = 1:9:1 3:10:1 5:10:0 4:10:0
                """);
    }

    private static void edited() {
        play("insert", """
                insert 1 0 6 = 6
                insert 3 0 6 = 7
                insert 5 0 6 = 8
                insert 2 1 6 = 9
                tree = 4(5(8)) 1(6) 0(2(3(7) 9))
                """);
        play("remove", """
                remove 1 = 1
                tree = 4(5) 0(2(3))
                undo = true
                remove 2 = 2
                tree = 4(5) 1 0
                remove 4 = 2
                tree = 1 0
                """);
        play("move", """
                move 3 0 0
                tree = 4(5) 1 0(3 2)
                move 2 1 0
                tree = 4(5) 1(2) 0(3)
                move 0 4 1
                tree = 4(5 0(3)) 1(2)
                move 1 5 0
                tree = 4(5(1(2)) 0(3))
                move 4 3 0 ! State
                """);
        play("move, before and behind what is next to the branch", """
                move 5 ROOT 0
                tree = 5 4 1 0(2(3))
                undo = true
                move 5 ROOT 1
                tree = 4 5 1 0(2(3))
                undo = true
                move 5 ROOT 2
                tree = 4 1 5 0(2(3))
                undo = true
                move 5 ROOT 3
                tree = 4 1 0(2(3)) 5
                undo = true
                move 3 0 0
                tree = 4(5) 1 0(3 2)
                undo = true
                move 3 0 1
                tree = 4(5) 1 0(2 3)
                undo = true
                move 1 4 0
                tree = 4(1 5) 0(2(3))
                undo = true
                move 1 4 1
                tree = 4(5 1) 0(2(3))
                """);
        play("promote and demote", """
                promote 3
                tree = 4(5) 1 0(2 3)
                promote 5
                tree = 4 5 1 0(2 3)
                demote 1
                tree = 4 5(1) 0(2 3)
                demote 0
                tree = 4 5(1 0(2 3))
                demote 5
                tree = 4(5(1 0(2 3)))
                """);
        play("sort", """
                insert 2 1 3 = 6
                sort 2 0
                tree = 4(5) 1 0(2(6 3))
                insert 4 1 3 = 7
                insert 4 2 2 = 8
                sort 4 0
                tree = 4(8 7 5) 1 0(2(6 3))
                minutes 3 0 1
                sort ROOT 4
                tree = 0(2(6 3)) 4(8 7 5) 1
                """);
    }

    private static void deepest() {
        RUNS.play("numbers: a deep branch behind a flat one", """
                insert ROOT 0 5 = 0
                insert ROOT 0 5 = 1
                insert 0 0 5 = 2
                10* insert i+2 0 5 = i+3
                tree = 1 0(2(3(4(5(6(7(8(9(10(11(12)))))))))))
                demote 0 ! Unsupported
                move 0 1 0 ! Unsupported
                insert 12 0 5 ! Unsupported
                insert 1 0 5 = 13
                remove 12 = 1
                demote 0
                tree = 1(13 0(2(3(4(5(6(7(8(9(10(11)))))))))))
                """);
        RUNS.play("numbers: a flat one behind a deep branch", """
                insert ROOT 0 5 = 0
                insert ROOT 1 5 = 1
                insert 0 0 5 = 2
                10* insert i+2 0 5 = i+3
                demote 1
                tree = 0(2(3(4(5(6(7(8(9(10(11(12)))))))))) 1)
                move 1 2 0
                tree = 0(2(1 3(4(5(6(7(8(9(10(11(12)))))))))))
                demote 3 ! Unsupported
                remove 12 = 1
                demote 3
                tree = 0(2(1(3(4(5(6(7(8(9(10(11)))))))))))
                """);
    }

    /** However many there are, the entry that was made last has all that an entry has. */
    private static void lastEntry() {
        for (int size = 1; size <= MOST_MADE; size++) {
            OutlineDesk desk = new OutlineDesk();
            for (int i = 0; i < size; i++) {
                desk.insert(ROOT, i, i);
            }
            int last = size - 1;
            desk.date(last, 0, 8, 1, 1, 2);
            desk.date(last, 1, 9, 2, 2, 3);
            desk.minutes(last, 0, 10);
            desk.minutes(last, 1, 11);
            int[] due = {ROOT, last, 1, last, 0, 0, 0, 0, 0, 0, 8, 9, 10, 11, 211, 322};
            for (int what = 0; what < due.length; what++) {
                CHECK.due("numbers: told(" + last + ", " + what + ")", desk.told(last, what), due[what]);
            }
        }
    }

    /** However many entries and steps there are, a step that is undone brings back what was before. */
    private static void undone() {
        for (int size = 1; size <= 225; size++) {
            OutlineDesk desk = new OutlineDesk();
            int edits = Math.min(size, 60);
            for (int i = 0; i < size; i++) {
                desk.insert(ROOT, i, size + 1 + i);
            }
            for (int i = 0; i < edits; i++) {
                desk.title(i, 0);
            }
            for (int i = 0; i < edits; i++) {
                CHECK.due("numbers: undo", desk.undo() ? 1 : 0, 1);
            }
            for (int i = 0; i < edits; i++) {
                CHECK.due("numbers: title of " + i + " of " + size, desk.told(i, 3), size + 1 + i);
            }
        }
    }

    public static void main(String[] args) {
        asked();
        edited();
        deepest();
        lastEntry();
        undone();
        CHECK.end("NumbersTest");
    }
}
