/**
 * For each promise a test for each sentence that names a boundary case: just inside and just outside
 * of each limit, empty and full, and the refused calls, behind which all must be as it was.
 */
public final class BoundariesTest {
    private static final Check CHECK = new Check();
    private static final Runs RUNS = new Runs(CHECK);

    /** 0(1(2 3) 4) 5(6), the titles 10 .. 16 */
    private static final String SMALL = """
            insert ROOT 0 10 = 0
            insert 0 0 11 = 1
            insert 1 0 12 = 2
            insert 1 1 13 = 3
            insert 0 1 14 = 4
            insert ROOT 1 15 = 5
            insert 5 0 16 = 6
            """;

    private static String promise = "";

    private static void play(String name, String script) {
        RUNS.play(promise + ": " + name, script);
    }

    private static void promise1() {
        promise = "promise 1";
        play("no entries", """
                about 0 = 0
                about 1 = 0
                about 3 = 0
                line 0 = NONE
                child ROOT 0 = NONE
                child ROOT -1 = NONE
                sum ROOT 0 = 0
                sum ROOT 1 = 0
                sum ROOT 2 = 0
                sum ROOT 3 = 0
                sum ROOT 4 = 0
                told 0 0 ! Index
                told ROOT 0 ! Index
                child 0 0 ! Index
                sum 0 0 ! Index
                remove 0 ! Index
                move 0 ROOT 0 ! Index
                sort ROOT 0 ~
                sort ROOT 4 ~
                match 0 0 -1 MIN = 0 ~
                agenda MIN MAX = 0 ~
                """);
        play("nothing found", """
                about 2 = 0
                found 0 0 ! Index
                found -1 0 ! Index
                found 0 3 ! Index
                """);
        play("no steps, no group", """
                steps 0 = 0
                steps 1 = 0
                steps 2 = 0
                undo = false ~
                redo = false ~
                close ! State
                """);
    }

    private static void promise2() {
        promise = "promise 2";
        play("at a place from 0 to how many children there are", """
                insert ROOT 1 5 ! Argument
                insert ROOT -1 5 ! Argument
                insert ROOT 0 5 = 0
                insert ROOT 2 5 ! Argument
                insert ROOT 1 5 = 1
                insert ROOT 3 5 ! Argument
                insert ROOT MAX 5 ! Argument
                insert ROOT MIN 5 ! Argument
                insert 0 1 5 ! Argument
                insert 0 -1 5 ! Argument
                insert 0 0 5 = 2
                insert 0 2 5 ! Argument
                insert 0 1 5 = 3
                insert 2 0 5 = 4
                insert 0 3 5 ! Argument
                insert 0 2 5 = 5
                insert ROOT 1 5 = 6
                insert ROOT 0 5 = 7
                tree = 7 0(2(4) 3 5) 6 1
                """);
        play("a place among children whose branches are large", SMALL + """
                insert ROOT 3 5 ! Argument
                insert ROOT 1 5 = 7
                insert 0 1 5 = 8
                insert 0 3 5 = 9
                insert 1 3 5 ! Argument
                insert 1 2 5 = 10
                insert ROOT 3 5 = 11
                tree = 0(1(2 3 10) 8 4 9) 7 5(6) 11
                """);
        play("a title 0 .. 999999", """
                insert ROOT 0 -1 ! Argument
                insert ROOT 0 1000000 ! Argument
                insert ROOT 0 MIN ! Argument
                insert ROOT 0 MAX ! Argument
                insert ROOT 0 0 = 0
                insert ROOT 0 999999 = 1
                insert ROOT 0 1 = 2
                insert ROOT 0 999998 = 3
                told 0 3 = 0
                told 1 3 = 999999
                told 2 3 = 1
                told 3 3 = 999998
                """);
        play("it would be deeper than 12", """
                11* insert i-1 0 5
                insert 10 0 5 = 11
                insert 11 0 5 ! Unsupported
                insert 10 1 5 = 12
                insert 12 0 5 ! Unsupported
                insert ROOT 0 5 = 13
                """);
        play("400 were made", """
                399* insert ROOT i i = i
                insert 0 0 5 = 399
                insert ROOT 0 5 ! Unsupported
                insert 0 0 5 ! Unsupported
                insert 0 1 5 ! Unsupported
                """);
        play("under one that is folded, or closed", """
                insert ROOT 0 5 = 0
                fold 0 true
                state 0 4 = 4
                insert 0 0 6 = 1
                told 1 4 = 0
                lines = 0
                """);
    }

    private static void promise3() {
        promise = "promise 3";
        play("its branch goes: how many entries it had", SMALL + """
                remove 6 = 1
                tree = 0(1(2 3) 4) 5
                remove 0 = 5
                tree = 5
                remove 5 = 1
                tree =
                about 0 = 0
                about 1 = 7
                remove 5 ! Index
                remove 0 ! Index
                remove 3 ! Index
                undo = true
                undo = true
                undo = true
                tree = 0(1(2 3) 4) 5(6)
                """);
        play("one in the middle, the first and the last", SMALL + """
                remove 1 = 3
                tree = 0(4) 5(6)
                undo = true
                remove 2 = 1
                remove 4 = 1
                tree = 0(1(3)) 5(6)
                remove 3 = 1
                tree = 0(1) 5(6)
                """);
        play("400 under one another and beside", """
                insert ROOT 0 5
                398* insert 0 i 5
                insert 398 0 5
                remove 0 = 400
                about 0 = 0
                undo = true
                about 0 = 400
                told 399 0 = 398
                told 398 1 = 397
                """);
        play("12 deep", """
                12* insert i-1 0 5
                remove 11 = 1
                remove 1 = 10
                told 0 8 = 0
                """);
        play("what was found and the folds stay", SMALL + """
                fold 1 true
                match 0 0 31 0 = 7
                remove 1 = 3
                items = 0:-1:-1 1:-1:-1 2:-1:-1 3:-1:-1 4:-1:-1 5:-1:-1 6:-1:-1
                undo = true
                told 1 9 = 1
                lines = 0 1 4 5 6
                """);
        play("refused", SMALL + """
                remove ROOT ! Index
                remove 7 ! Index
                remove -2 ! Index
                remove MAX ! Index
                """);
    }

    private static void promise4() {
        promise = "promise 4";
        play("at a place counted without it", SMALL + """
                insert ROOT 2 17 = 7
                move 0 ROOT 3 ! Argument
                move 0 ROOT -1 ! Argument
                move 0 ROOT MAX ! Argument
                move 0 ROOT MIN ! Argument
                move 0 ROOT 2
                tree = 5(6) 7 0(1(2 3) 4)
                move 0 ROOT 2 ~
                move 0 ROOT 1
                tree = 5(6) 0(1(2 3) 4) 7
                move 5 ROOT 0 ~
                move 5 ROOT 1
                tree = 0(1(2 3) 4) 5(6) 7
                move 7 ROOT 2 ~
                move 7 ROOT 0
                tree = 7 0(1(2 3) 4) 5(6)
                move 1 0 2 ! Argument
                move 1 0 1
                tree = 7 0(4 1(2 3)) 5(6)
                move 1 0 1 ~
                """);
        play("under another one: a place from 0 to how many children there are", SMALL + """
                move 6 0 3 ! Argument
                move 6 0 -1 ! Argument
                move 6 0 2
                tree = 0(1(2 3) 4 6) 5
                move 6 1 0
                tree = 0(1(6 2 3) 4) 5
                move 4 5 1 ! Argument
                move 4 5 0
                tree = 0(1(6 2 3)) 5(4)
                move 4 ROOT 3 ! Argument
                move 4 ROOT 2
                tree = 0(1(6 2 3)) 5 4
                move 1 ROOT 0
                tree = 1(6 2 3) 0 5 4
                told 6 2 = 2
                move 1 4 0
                tree = 0 5 4(1(6 2 3))
                told 6 2 = 3
                move 4 0 0
                tree = 0(4(1(6 2 3))) 5
                told 6 2 = 4
                """);
        play("an only one", """
                insert ROOT 0 5 = 0
                move 0 ROOT 0 ~
                move 0 ROOT 1 ! Argument
                move 0 ROOT -1 ! Argument
                move 0 0 0 ! State
                """);
        play("the entry is not there, of both", SMALL + """
                remove 1 = 3
                move 1 ROOT 0 ! Index
                move 2 ROOT 0 ! Index
                move 7 ROOT 0 ! Index
                move 0 1 0 ! Index
                move 0 2 0 ! Index
                move 0 7 0 ! Index
                move 0 -2 0 ! Index
                move 7 7 0 ! Index
                move ROOT 0 0 ! Index
                """);
        play("the other one is in its branch", SMALL + """
                move 0 0 0 ! State
                move 0 1 0 ! State
                move 0 3 0 ! State
                move 0 4 0 ! State
                move 1 1 0 ! State
                move 1 2 0 ! State
                move 6 6 0 ! State
                move 1 4 0
                tree = 0(4(1(2 3))) 5(6)
                move 4 3 0 ! State
                move 5 3 0
                tree = 0(4(1(2 3(5(6)))))
                """);
        play("one would be deeper than 12", """
                10* insert i-1 0 5
                insert ROOT 1 5 = 10
                insert 10 0 5 = 11
                insert 11 0 5 = 12
                insert 10 0 5 = 13
                move 10 9 0 ! Unsupported
                move 10 8 0
                told 12 2 = 12
                told 13 2 = 11
                undo = true
                move 10 8 1
                undo = true
                remove 12 = 1
                move 10 9 0
                told 10 2 = 11
                told 11 2 = 12
                move 9 11 0 ! State
                """);
        play("a branch that is 12 deep already", """
                12* insert i-1 0 5
                insert ROOT 1 5 = 12
                insert 10 1 5 = 13
                move 0 ROOT 1
                told 11 2 = 12
                move 0 12 0 ! Unsupported
                move 12 11 0 ! Unsupported
                move 12 10 0
                told 12 2 = 12
                move 13 12 0 ! Unsupported
                move 11 10 2
                told 11 1 = 2
                """);
        play("to and from root with a full outline", """
                400* insert ROOT i i
                move 399 ROOT 0
                told 399 1 = 0
                told 398 1 = 399
                move 399 ROOT 400 ! Argument
                move 399 ROOT 399
                told 399 1 = 399
                told 0 1 = 0
                move 0 399 0
                told 399 1 = 398
                """);
    }

    private static void promise5() {
        promise = "promise 5";
        play("its branch comes behind that under which it stands", SMALL + """
                promote 2
                tree = 0(1(3) 2 4) 5(6)
                promote 3
                tree = 0(1 3 2 4) 5(6)
                promote 4
                tree = 0(1 3 2) 4 5(6)
                promote 6
                tree = 0(1 3 2) 4 5 6
                """);
        play("with all that is under it", SMALL + """
                promote 1
                tree = 0(4) 1(2 3) 5(6)
                told 1 2 = 1
                told 3 2 = 2
                """);
        play("that is root", SMALL + """
                promote 0 ! State
                promote 5 ! State
                promote 6
                promote 6 ! State
                """);
        play("from 12 deep up to root", """
                12* insert i-1 0 5
                11* promote 11
                told 11 2 = 1
                told 11 1 = 1
                promote 11 ! State
                promote 1
                told 10 2 = 10
                tree = 0 1(2(3(4(5(6(7(8(9(10))))))))) 11
                """);
        play("refused", SMALL + """
                promote ROOT ! Index
                promote 7 ! Index
                remove 0 = 5
                promote 2 ! Index
                """);
    }

    private static void promise6() {
        promise = "promise 6";
        play("its branch becomes the last child of the child before it", SMALL + """
                demote 5
                tree = 0(1(2 3) 4 5(6))
                told 6 2 = 3
                demote 4
                tree = 0(1(2 3 4) 5(6))
                demote 3
                tree = 0(1(2(3) 4) 5(6))
                demote 5
                tree = 0(1(2(3) 4 5(6)))
                """);
        play("of one that has none, or is folded", """
                insert ROOT 0 5 = 0
                insert ROOT 1 5 = 1
                insert ROOT 2 5 = 2
                fold 0 true
                demote 1
                told 1 0 = 0
                told 1 1 = 0
                lines = 0 2
                demote 2
                told 2 1 = 1
                lines = 0
                """);
        play("it is the first one", SMALL + """
                demote 0 ! State
                demote 1 ! State
                demote 2 ! State
                demote 6 ! State
                move 5 ROOT 0
                demote 5 ! State
                demote 0
                tree = 5(6 0(1(2 3) 4))
                """);
        play("one would be deeper than 12: itself", """
                11* insert i-1 0 5
                insert 10 0 5 = 11
                insert 10 1 5 = 12
                demote 12 ! Unsupported
                demote 11 ! State
                insert 9 1 5 = 13
                demote 13
                told 13 2 = 12
                told 13 1 = 2
                demote 13 ! Unsupported
                """);
        play("one would be deeper than 12: one under it", """
                insert ROOT 0 5 = 0
                insert ROOT 1 5 = 1
                10* insert i+1 0 5 = i+2
                told 11 2 = 11
                demote 1
                told 11 2 = 12
                undo = true
                insert 11 0 5 = 12
                told 12 2 = 12
                demote 1 ! Unsupported
                remove 12 = 1
                insert 1 1 5 = 13
                demote 1
                told 13 2 = 3
                """);
        play("refused", SMALL + """
                demote ROOT ! Index
                demote 7 ! Index
                remove 5 = 2
                demote 5 ! Index
                """);
    }

    private static void promise7() {
        promise = "promise 7";
        play("a title, 0 .. 999999", SMALL + """
                title 1 0
                told 1 3 = 0
                title 1 0 ~
                title 1 999999
                told 1 3 = 999999
                title 1 -1 ! Argument
                title 1 1000000 ! Argument
                title 1 MIN ! Argument
                title 1 MAX ! Argument
                told 0 3 = 10
                told 2 3 = 12
                title ROOT 5 ! Index
                title 7 5 ! Index
                """);
        play("equal ones are fine", """
                insert ROOT 0 5
                insert ROOT 0 6
                title 0 6
                told 0 3 = 6
                told 1 3 = 6
                """);
    }

    private static void promise8() {
        promise = "promise 8";
        play("a state, 0 .. 4: answers the state", SMALL + """
                state 1 0 = 0 ~
                state 1 1 = 1
                state 1 2 = 2
                state 1 3 = 3
                state 1 3 = 3 ~
                state 1 4 = 4
                told 1 4 = 4
                told 2 4 = 0
                state 1 0 = 0
                state 1 -1 ! Argument
                state 1 5 ! Argument
                state 1 MIN ! Argument
                state 1 MAX ! Argument
                state ROOT 1 ! Index
                state 7 1 ! Index
                """);
        play("if it is 3, and a date has a repeat", """
                insert ROOT 0 5 = 0
                date 0 0 100 0 0 0
                state 0 3 = 3
                told 0 10 = 100
                date 0 1 100 1 0 1
                told 0 4 = 3
                state 0 4 = 4
                state 0 2 = 2
                state 0 1 = 1
                state 0 0 = 0
                told 0 11 = 100
                state 0 3 = 1
                told 0 4 = 1
                told 0 11 = 101
                state 0 3 = 1
                told 0 11 = 102
                told 0 10 = 100
                told 0 15 = 101
                """);
        play("one that is done already, too", """
                insert ROOT 0 5 = 0
                state 0 3 = 3
                date 0 0 100 1 1 1
                state 0 3 = 1
                told 0 10 = 107
                """);
        play("those with one move: start alone", """
                insert ROOT 0 5 = 0
                date 0 0 100 1 1 1
                date 0 1 200 0 1 1
                state 0 3 = 1
                fields 0 = -1 0 1 5 1 0 0 0 0 0 107 200 0 0 111 0
                """);
        play("those with one move: due alone, start none", """
                insert ROOT 0 5 = 0
                date 0 1 200 1 1 1
                state 0 3 = 1
                fields 0 = -1 0 1 5 1 0 0 0 0 0 -1 207 0 0 0 111
                """);
        play("those with one move: each by its own", """
                insert ROOT 0 5 = 0
                today 1000
                date 0 0 100 2 0 7
                date 0 1 200 3 1 2
                state 0 3 = 1
                fields 0 = -1 0 1 5 1 0 0 0 0 0 1003 1014 0 0 702 213
                undo = true
                fields 0 = -1 0 1 5 0 0 0 0 0 0 100 200 0 0 702 213
                redo = true
                told 0 10 = 1003
                told 0 11 = 1014
                told 0 4 = 1
                """);
        play("no move of those under it or above it", SMALL + """
                date 0 0 100 1 0 1
                date 1 0 100 1 0 1
                date 2 0 100 1 0 1
                state 1 3 = 1
                told 0 10 = 100
                told 0 4 = 0
                told 1 10 = 101
                told 2 10 = 100
                told 2 4 = 0
                """);
        play("moved to where it is: no step", """
                insert ROOT 0 5 = 0
                today 6
                date 0 0 7 3 0 1
                state 0 3 = 1
                state 0 3 = 1 ~
                today 7
                state 0 3 = 1
                told 0 10 = 8
                """);
        aboveTheLastDay();
    }

    private static void aboveTheLastDay() {
        above("kind 1 days", "0", "3652057", "3652058", "1 0 1");
        above("kind 1, 99 days", "0", "3651959", "3651960", "1 0 99");
        above("kind 1 weeks", "0", "3652051", "3652052", "1 1 1");
        above("kind 1, 99 weeks", "0", "3651365", "3651366", "1 1 99");
        above("kind 1 months", "0", "9999-11-30", "9999-12-01", "1 2 1");
        above("kind 1, 99 months", "0", "9991-09-30", "9991-10-01", "1 2 99");
        above("kind 1 years", "0", "9998-12-31", "9999-01-01", "1 3 1");
        above("kind 1, 99 years", "0", "9900-12-31", "9901-01-01", "1 3 99");
        above("kind 2 days", "3652057", "3652056", "3652058", "2 0 1");
        above("kind 2, 2 days", "3652057", "3652056", "3652055", "2 0 2");
        above("kind 2 weeks", "3652050", "3652051", "3652052", "2 1 1");
        above("kind 2 months", "9999-11-30", "0001-01-01", "9999-12-01", "2 2 1");
        above("kind 2 years", "9998-12-31", "9997-12-31", "9999-01-01", "2 3 1");
        play("a date would be above the last day: from today", """
                insert ROOT 0 5 = 0
                date 0 0 0 3 0 1
                today 3652058
                state 0 3 ! Unsupported
                today 3652057
                state 0 3 = 1
                told 0 10 = 3652058
                today 9999-12-01
                date 0 0 0 3 2 1
                state 0 3 ! Unsupported
                today 9999-11-30
                state 0 3 = 1
                told 0 10 = 9999-12-30
                date 0 0 0 3 3 1
                today 9999-01-01
                state 0 3 ! Unsupported
                today 9998-12-31
                state 0 3 = 1
                told 0 10 = 9999-12-31
                date 0 0 0 3 1 99
                today LAST-692
                state 0 3 ! Unsupported
                today LAST-693
                state 0 3 = 1
                told 0 10 = 3652058
                """);
        play("a date would be above the last day: until it is behind today", """
                insert ROOT 0 5 = 0
                date 0 1 0 2 0 1
                today 3652058
                state 0 3 ! Unsupported
                date 0 1 0 2 3 1
                state 0 3 ! Unsupported
                date 0 1 0 2 2 99
                state 0 3 ! Unsupported
                date 0 1 3652058 2 1 1
                state 0 3 ! Unsupported
                """);
        play("one of two dates would be above the last day", """
                insert ROOT 0 5 = 0
                state 0 2
                date 0 0 100 1 0 1
                date 0 1 3652058 1 0 1
                state 0 3 ! Unsupported
                date 0 0 3652058 1 0 1
                state 0 3 ! Unsupported
                date 0 1 100 1 0 1
                state 0 3 ! Unsupported
                date 0 0 3652058 0 0 0
                state 0 3 = 1
                told 0 10 = 3652058
                told 0 11 = 101
                """);
        play("only if it is 3", """
                insert ROOT 0 5 = 0
                date 0 0 3652058 1 0 1
                state 0 4 = 4
                state 0 2 = 2
                state 0 1 = 1
                state 0 0 = 0
                state 0 3 ! Unsupported
                state 0 5 ! Argument
                date 0 0 3652058 0 0 1
                state 0 3 = 3
                """);
    }

    /** A day from which a date can move still, and one from which it cannot, for start and due. */
    private static void above(String name, String today, String inside, String outside, String repeat) {
        for (int which = 0; which < 2; which++) {
            play("a date would be above the last day: " + name, """
                    insert ROOT 0 5 = 0
                    today %s
                    date 0 %d %s %s
                    state 0 3 ! Unsupported
                    date 0 %d %s %s
                    state 0 3 = 1
                    """.formatted(today, which, outside, repeat, which, inside, repeat));
        }
    }

    private static void promise9() {
        promise = "promise 9";
        play("a rank, 0 .. 3", SMALL + """
                rank 1 0 ~
                rank 1 3
                told 1 5 = 3
                rank 1 3 ~
                rank 1 -1 ! Argument
                rank 1 4 ! Argument
                rank 1 MIN ! Argument
                rank 1 MAX ! Argument
                rank 1 1
                rank 1 2
                told 1 5 = 2
                rank 1 0
                told 1 5 = 0
                told 2 5 = 0
                rank ROOT 1 ! Index
                rank 7 1 ! Index
                """);
    }

    private static void promise10() {
        promise = "promise 10";
        play("the tag of a bit, 0 .. 23", SMALL + """
                tag 1 0 true
                told 1 6 = 1
                tag 1 23 true
                told 1 6 = 8388609
                tag 1 0 true ~
                tag 1 23 true ~
                tag 1 22 false ~
                tag 1 -1 true ! Argument
                tag 1 -1 false ! Argument
                tag 1 24 true ! Argument
                tag 1 24 false ! Argument
                tag 1 32 true ! Argument
                tag 1 MIN true ! Argument
                tag 1 MAX true ! Argument
                tag 1 0 false
                told 1 6 = 8388608
                tag 1 23 false
                told 1 6 = 0
                tag ROOT 0 true ! Index
                tag 7 0 true ! Index
                """);
        play("is one of its own, or none", SMALL + """
                tag 0 5 true
                told 1 6 = 0
                told 1 7 = 32
                tag 1 5 false ~
                told 1 7 = 32
                tag 1 5 true
                tag 0 5 false
                told 0 7 = 0
                told 1 7 = 32
                told 2 7 = 32
                told 4 7 = 0
                move 2 5 0
                told 2 7 = 0
                """);
    }

    private static void promise11() {
        promise = "promise 11";
        play("which, 0 or 1", SMALL + """
                date 1 0 7 0 0 0
                date 1 1 8 0 0 0
                told 1 10 = 7
                told 1 11 = 8
                date 1 -1 7 0 0 0 ! Argument
                date 1 2 7 0 0 0 ! Argument
                date 1 MAX 7 0 0 0 ! Argument
                date 1 MIN 7 0 0 0 ! Argument
                date ROOT 0 7 0 0 0 ! Index
                date 7 0 7 0 0 0 ! Index
                told 0 10 = NONE
                told 2 10 = NONE
                """);
        play("a day, 0 .. 3652058", SMALL + """
                date 1 0 0 0 0 0
                told 1 10 = 0
                date 1 0 0 0 0 0 ~
                date 1 0 3652058 0 0 0
                told 1 10 = 3652058
                date 1 0 3652059 0 0 0 ! Argument
                date 1 0 -2 0 0 0 ! Argument
                date 1 1 3652059 1 1 1 ! Argument
                date 1 1 -2 1 1 1 ! Argument
                date 1 0 MIN 0 0 0 ! Argument
                date 1 0 MAX 0 0 0 ! Argument
                """);
        play("unit and count are looked at if kind is not 0", SMALL + """
                date 1 0 7 1 0 1
                told 1 14 = 101
                date 1 0 7 2 3 99
                told 1 14 = 9932
                date 1 0 7 3 1 1
                told 1 14 = 113
                date 1 0 7 1 4 1 ! Argument
                date 1 0 7 1 -1 1 ! Argument
                date 1 0 7 1 0 0 ! Argument
                date 1 0 7 1 0 100 ! Argument
                date 1 0 7 2 4 1 ! Argument
                date 1 0 7 2 0 0 ! Argument
                date 1 0 7 3 -1 1 ! Argument
                date 1 0 7 3 0 100 ! Argument
                date 1 0 7 4 0 1 ! Argument
                date 1 0 7 -1 0 1 ! Argument
                date 1 0 7 -1 0 0 ! Argument
                """);
        play("and are 0 otherwise", SMALL + """
                date 1 1 7 0 3 99
                told 1 15 = 0
                date 1 1 7 0 0 0 ~
                date 1 1 7 0 4 100 ~
                date 1 1 7 0 -1 -1 ~
                date 1 1 7 0 MIN MAX ~
                date 1 1 7 1 3 99
                told 1 15 = 9931
                date 1 1 7 0 3 99
                told 1 15 = 0
                state 1 3 = 3
                """);
        play("none for day NONE, then the others are not looked at", SMALL + """
                date 1 0 NONE 0 0 0 ~
                date 1 1 NONE 1 1 1 ~
                date 1 0 7 1 1 1
                date 1 1 8 2 2 2
                date 1 0 NONE 4 4 100
                told 1 10 = NONE
                told 1 14 = 0
                told 1 11 = 8
                told 1 15 = 222
                date 1 1 NONE -1 -1 0
                told 1 11 = NONE
                told 1 15 = 0
                date 1 1 NONE MIN MAX MIN ~
                date 1 2 NONE 0 0 0 ! Argument
                date 7 0 NONE 0 0 0 ! Index
                state 1 3 = 3
                undo = true
                undo = true
                told 1 11 = 8
                told 1 15 = 222
                """);
        play("a repeat alone, or a day alone, is a change", SMALL + """
                date 1 0 7 1 1 1
                date 1 0 7 2 1 1
                date 1 0 7 2 2 1
                date 1 0 7 2 2 2
                date 1 0 8 2 2 2
                steps 0 = 12
                date 1 0 8 2 2 2 ~
                """);
    }

    private static void promise12() {
        promise = "promise 12";
        play("so many minutes, 0 .. 1000000", SMALL + """
                minutes 1 0 0 ~
                minutes 1 1 0 ~
                minutes 1 0 1000000
                minutes 1 1 1
                told 1 12 = 1000000
                told 1 13 = 1
                minutes 1 0 1000000 ~
                minutes 1 0 1000001 ! Argument
                minutes 1 1 1000001 ! Argument
                minutes 1 0 -1 ! Argument
                minutes 1 1 -1 ! Argument
                minutes 1 0 MIN ! Argument
                minutes 1 0 MAX ! Argument
                minutes 1 1 999999
                minutes 1 0 0
                told 1 12 = 0
                told 1 13 = 999999
                told 0 12 = 0
                told 2 12 = 0
                """);
        play("which, 0 or 1", SMALL + """
                minutes 1 -1 5 ! Argument
                minutes 1 2 5 ! Argument
                minutes 1 MAX 5 ! Argument
                minutes 1 2 -1 ! Argument
                minutes ROOT 0 5 ! Index
                minutes 7 0 5 ! Index
                """);
    }

    private static void promise13() {
        promise = "promise 13";
        play("folded or not", SMALL + """
                fold 1 false ~
                fold 1 true
                told 1 9 = 1
                fold 1 true ~
                told 0 9 = 0
                told 2 9 = 0
                fold 6 true
                told 6 9 = 1
                fold 1 false
                told 1 9 = 0
                fold ROOT true ! Index
                fold ROOT false ! Index
                fold 7 true ! Index
                """);
    }

    private static void promise14() {
        promise = "promise 14";
        play("by title, equal ones as they were", """
                insert ROOT 0 999999 = 0
                insert ROOT 1 5 = 1
                insert ROOT 2 0 = 2
                insert ROOT 3 5 = 3
                insert ROOT 4 0 = 4
                insert 0 0 3 = 5
                insert 0 1 1 = 6
                sort ROOT 0
                tree = 2 4 1 3 0(5 6)
                sort ROOT 0 ~
                sort 0 0
                tree = 2 4 1 3 0(6 5)
                sort 6 0 ~
                """);
        play("by state", """
                6* insert ROOT i 5
                state 0 4
                state 1 3
                state 2 2
                state 3 1
                state 5 4
                sort ROOT 1
                tree = 4 3 2 1 0 5
                sort ROOT 1 ~
                """);
        play("by rank, the greatest first", """
                6* insert ROOT i 5
                rank 1 1
                rank 2 2
                rank 3 3
                rank 5 3
                sort ROOT 2
                tree = 3 5 2 1 0 4
                sort ROOT 2 ~
                """);
        play("by due day, none last", """
                6* insert ROOT i 5
                date 5 1 0 0 0 0
                date 4 1 3652058 0 0 0
                date 3 1 7 0 0 0
                date 2 1 7 3 3 99
                date 1 0 3 0 0 0
                sort ROOT 3
                tree = 5 2 3 4 0 1
                sort ROOT 3 ~
                date 5 1 NONE 0 0 0
                sort ROOT 3
                tree = 2 3 4 5 0 1
                """);
        play("by the effort of their branches, the greatest first", """
                5* insert ROOT i 5
                insert 4 0 5 = 5
                insert 5 0 5 = 6
                minutes 6 0 1000000
                minutes 4 0 1
                minutes 3 0 1000000
                minutes 2 1 1000000
                minutes 1 0 1
                sort ROOT 4
                tree = 4(5(6)) 3 1 0 2
                sort ROOT 4 ~
                minutes 6 0 999999
                sort ROOT 4 ~
                minutes 6 0 999998
                sort ROOT 4
                tree = 3 4(5(6)) 1 0 2
                """);
        play("efforts of very many", """
                insert ROOT 0 5
                insert ROOT 1 5
                200* insert 1 0 5
                200* minutes i+2 0 1000000
                minutes 0 0 1000000
                sort ROOT 4
                child ROOT 0 = 1
                sum 1 1 = 200000000
                """);
        play("the children of an entry alone, with their branches", SMALL + """
                title 0 99
                title 1 98
                title 2 97
                sort 0 0
                tree = 0(4 1(2 3)) 5(6)
                sort ROOT 0
                tree = 5(6) 0(4 1(2 3))
                sort 1 0
                tree = 5(6) 0(4 1(3 2))
                """);
        play("none, or one alone", SMALL + """
                sort 6 0 ~
                sort 5 0 ~
                sort 5 1 ~
                sort 5 2 ~
                sort 5 3 ~
                sort 5 4 ~
                """);
        play("by 0 .. 4", SMALL + """
                sort ROOT -1 ! Argument
                sort ROOT 5 ! Argument
                sort ROOT MIN ! Argument
                sort ROOT MAX ! Argument
                sort 6 5 ! Argument
                sort 7 0 ! Index
                sort -2 0 ! Index
                """);
        play("400 of them, the wrong way round", """
                400* insert ROOT 0 i
                sort ROOT 0
                told 0 1 = 0
                told 1 1 = 1
                told 398 1 = 398
                told 399 1 = 399
                sort ROOT 0 ~
                undo = true
                told 0 1 = 399
                told 399 1 = 0
                redo = true
                told 399 1 = 399
                """);
        play("400 equal ones as they were", """
                400* insert ROOT 0 7
                sort ROOT 0 ~
                sort ROOT 1 ~
                sort ROOT 2 ~
                sort ROOT 3 ~
                sort ROOT 4 ~
                told 0 1 = 399
                """);
    }

    private static void promise15() {
        promise = "promise 15";
        play("a group is open", """
                open
                steps 2 = 0
                insert ROOT 0 5 = 0
                steps 2 = 1
                steps 0 = 0
                close = 1
                """);
        play("one is", """
                open
                open ! State
                insert ROOT 0 5 = 0
                open ! State
                steps 2 = 1
                close = 1
                open
                open ! State
                close = 1
                """);
        play("it is no edit, and leaves what can be redone", """
                insert ROOT 0 5
                undo = true
                open
                steps 1 = 1
                close = 0
                steps 1 = 1
                redo = true
                about 0 = 1
                """);
    }

    private static void promise16() {
        promise = "promise 16";
        play("none is open", SMALL + """
                close ! State
                open
                close = 7
                close ! State
                undo = true
                close ! State
                """);
        play("how many steps can be undone", """
                open
                close = 0
                open
                insert ROOT 0 5 = 0
                title 0 6
                close = 1
                open
                title 0 6 ~
                close = 1
                undo = true
                open
                close = 0
                redo = true
                open
                remove 0
                close = 2
                """);
        play("59, 60 and no more", """
                insert ROOT 0 0
                57* title 0 i+1
                open
                title 0 100
                close = 59
                open
                title 0 101
                close = 60
                open
                title 0 102
                title 0 103
                close = 60
                open
                close = 60
                60* undo = true
                undo = false
                told 0 3 = 0
                """);
    }

    private static void promise17() {
        promise = "promise 17";
        play("false when there is none", """
                undo = false ~
                today 5
                match 0 0 31 0
                undo = false ~
                open
                close = 0
                undo = false ~
                insert ROOT 0 5
                undo = true
                undo = false ~
                redo = true
                about 0 = 1
                """);
        play("a group is open", SMALL + """
                undo = true
                open
                undo ! State
                title 0 5
                undo ! State
                close = 7
                undo = true
                told 0 3 = 10
                """);
        play("a group is open, and there is none", """
                open
                undo ! State
                """);
        play("what was found, today and how many were made stay", SMALL + """
                today 9
                match 0 0 31 0 = 7
                remove 0 = 5
                undo = true
                undo = true
                about 0 = 6
                about 1 = 7
                about 2 = 7
                about 3 = 9
                """);
        play("each kind of edit", SMALL + """
                move 6 0 1
                promote 2
                demote 4
                title 1 20
                state 1 2
                rank 1 3
                tag 1 23 true
                date 1 0 9 1 1 1
                date 1 1 9 2 2 2
                state 1 3
                minutes 1 0 8
                minutes 1 1 9
                fold 1 true
                sort 0 0
                remove 0
                22* undo = true
                undo = false
                about 0 = 0
                22* redo = true
                redo = false
                tree = 5
                """);
    }

    private static void promise18() {
        promise = "promise 18";
        play("false when there is nothing", """
                redo = false ~
                insert ROOT 0 5
                redo = false ~
                undo = true
                redo = true
                redo = false ~
                about 0 = 1
                """);
        play("a group is open", SMALL + """
                undo = true
                open
                redo ! State
                title 0 10 ~
                redo ! State
                title 0 11
                redo ! State
                close = 7
                redo = false ~
                """);
        play("a group is open, and there is nothing", """
                open
                redo ! State
                """);
        play("what was done is done again, whatever today is", """
                insert ROOT 0 5
                date 0 0 10 3 0 1
                today 100
                state 0 3 = 1
                undo = true
                today 200
                redo = true
                told 0 10 = 101
                """);
    }

    private static void promise19() {
        promise = "promise 19";
        play("undone (0), redone (1), in the open group (2; 0 without one)", SMALL + """
                steps 0 = 7
                steps 1 = 0
                steps 2 = 0
                undo = true
                undo = true
                steps 0 = 5
                steps 1 = 2
                steps 2 = 0
                open
                steps 2 = 0
                title 0 10 ~
                title 0 -1 ! Argument
                title 9 1 ! Index
                promote 0 ! State
                steps 2 = 0
                steps 1 = 2
                title 0 1
                title 0 2
                title 0 2 ~
                steps 0 = 5
                steps 1 = 0
                steps 2 = 2
                close = 6
                steps 2 = 0
                steps -1 ! Argument
                steps 3 ! Argument
                steps MIN ! Argument
                steps MAX ! Argument
                """);
        play("many edits in a group", """
                insert ROOT 0 0
                open
                200* title 0 i+1
                steps 2 = 200
                steps 0 = 1
                close = 2
                undo = true
                told 0 3 = 0
                redo = true
                told 0 3 = 200
                """);
        play("wrong in a group too", """
                open
                steps -1 ! Argument
                steps 3 ! Argument
                """);
    }

    private static void promise20() {
        promise = "promise 20";
        play("today becomes a day: the one before", """
                today 0 = 0
                today 3652058 = 0
                today 3652058 = 3652058
                today 3652057 = 3652058
                today 1 = 3652057
                about 3 = 1
                today -1 ! Argument
                today 3652059 ! Argument
                today MIN ! Argument
                today MAX ! Argument
                """);
        play("this is no edit", """
                insert ROOT 0 5
                insert ROOT 0 5
                undo = true
                today 7 = 0
                steps 0 = 1
                steps 1 = 1
                undo = true
                about 3 = 7
                redo = true
                redo = true
                about 3 = 7
                open
                today 8 = 7
                steps 2 = 0
                close = 2
                """);
        play("no date moves by it", """
                insert ROOT 0 5
                date 0 0 5 2 0 1
                today 100
                told 0 10 = 5
                told 0 4 = 0
                """);
    }

    private static void promise21() {
        promise = "promise 21";
        play("there is none such: years", """
                day 0 1 1 ! Argument
                day 1 1 1 = 0
                day 9999 12 31 = 3652058
                day 10000 1 1 ! Argument
                day -1 1 1 ! Argument
                day MIN 1 1 ! Argument
                day MAX 12 31 ! Argument
                day 4 2 29 = 1154
                day -4 2 29 ! Argument
                day 0 2 29 ! Argument
                """);
        play("there is none such: months", """
                day 2024 0 1 ! Argument
                day 2024 1 1 = 2024-01-01
                day 2024 12 1 = 2024-12-01
                day 2024 13 1 ! Argument
                day 2024 -1 1 ! Argument
                day 2024 MIN 1 ! Argument
                day 2024 MAX 1 ! Argument
                """);
        int[] lengths = {31, 28, 31, 30, 31, 30, 31, 31, 30, 31, 30, 31};
        for (int year = 2023; year <= 2024; year++) {
            for (int month = 1; month <= 12; month++) {
                int length = lengths[month - 1] + (month == 2 && year == 2024 ? 1 : 0);
                String first = "%d-%02d-01".formatted(year, month);
                play("there is none such: days of " + first, """
                        day %1$d %2$d 0 ! Argument
                        day %1$d %2$d 1 = %3$s
                        day %1$d %2$d %4$d = %3$s+%5$d
                        day %1$d %2$d %6$d ! Argument
                        day %1$d %2$d -1 ! Argument
                        day %1$d %2$d MAX ! Argument
                        day %1$d %2$d MIN ! Argument
                        """.formatted(year, month, first, length, length - 1, length + 1));
            }
        }
        play("each as the day behind the one before", """
                day 2023 2 28 = 738578
                day 2023 3 1 = 738579
                day 2024 2 28 = 738943
                day 2024 2 29 = 738944
                day 2024 3 1 = 738945
                day 2024 12 31 = 739250
                day 2025 1 1 = 739251
                day 1999 12 31 = 1999-12-31
                day 2000 1 1 = 1999-12-31+1
                day 1900 2 28 = 1900-03-01-1
                """);
    }

    private static void promise22() {
        promise = "promise 22";
        play("of a day, 0 .. 3652058", """
                calendar 0 0 = 1
                calendar 0 1 = 1
                calendar 0 2 = 1
                calendar 0 3 = 0
                calendar 3652058 0 = 9999
                calendar 3652058 1 = 12
                calendar 3652058 2 = 31
                calendar 3652058 3 = 4
                calendar -1 0 ! Argument
                calendar 3652059 0 ! Argument
                calendar -1 3 ! Argument
                calendar 3652059 3 ! Argument
                calendar MIN 2 ! Argument
                calendar MAX 2 ! Argument
                """);
        play("what, 0 .. 3", """
                calendar 0 -1 ! Argument
                calendar 0 4 ! Argument
                calendar 0 MIN ! Argument
                calendar 0 MAX ! Argument
                calendar -1 4 ! Argument
                """);
        play("weekday: 0 Monday, as the first one is, .. 6", """
                7* calendar i 3 = i
                calendar 7 3 = 0
                calendar 13 3 = 6
                calendar 2026-11-15 3 = 6
                calendar 2026-11-16 3 = 0
                """);
        play("the ends of years and months", """
                calendar 364 0 = 1
                calendar 364 1 = 12
                calendar 364 2 = 31
                calendar 365 0 = 2
                calendar 365 1 = 1
                calendar 365 2 = 1
                calendar 1460 0 = 4
                calendar 1460 2 = 31
                calendar 1461 0 = 5
                calendar 30 1 = 1
                calendar 30 2 = 31
                calendar 31 1 = 2
                calendar 31 2 = 1
                calendar 58 2 = 28
                calendar 59 1 = 3
                calendar 1154 1 = 2
                calendar 1154 2 = 29
                calendar 1900-03-01 1 = 3
                calendar 1900-03-01-1 2 = 28
                calendar 2000-03-01-1 2 = 29
                calendar 2000-12-31 0 = 2000
                calendar 2000-12-31+1 0 = 2001
                calendar 0400-12-31 0 = 400
                calendar 0400-12-31 2 = 31
                calendar 146097 0 = 401
                calendar 146097 1 = 1
                """);
    }

    private static void promise23() {
        promise = "promise 23";
        play("all of some bits and none of others", SMALL + """
                tag 0 0 true
                tag 1 23 true
                tag 2 5 true
                tag 6 0 true
                match 0 0 31 0 = 7
                match 1 0 31 0 = 6
                items = 0:-1:-1 1:-1:-1 2:-1:-1 3:-1:-1 4:-1:-1 6:-1:-1
                match 8388608 0 31 0 = 3
                items = 1:-1:-1 2:-1:-1 3:-1:-1
                match 8388609 0 31 0 = 3
                match 8388641 0 31 0 = 1
                items = 2:-1:-1
                match 33 8388608 31 0 = 0
                match 1 8388608 31 0 = 3
                items = 0:-1:-1 4:-1:-1 6:-1:-1
                match 0 1 31 0 = 1
                items = 5:-1:-1
                match 1 1 31 0 = 0
                match 0 8388641 31 0 = 1
                match 2 0 31 0 = 0
                match 0 2 31 0 = 7
                """);
        play("bits that no tag has", SMALL + """
                24* tag 0 i true
                match 16777215 0 31 0 = 5
                match 16777216 0 31 0 = 0
                match 33554431 0 31 0 = 0
                match -1 0 31 0 = 0
                match MIN 0 31 0 = 0
                match 0 16777216 31 0 = 7
                match 0 MIN 31 0 = 7
                match 0 -1 31 0 = 2
                items = 5:-1:-1 6:-1:-1
                """);
        play("whose state's bit is 1 in states", SMALL + """
                state 1 1
                state 2 2
                state 3 3
                state 4 4
                match 0 0 1 0 = 3
                items = 0:-1:-1 5:-1:-1 6:-1:-1
                match 0 0 2 0 = 1
                items = 1:-1:-1
                match 0 0 4 0 = 1
                items = 2:-1:-1
                match 0 0 8 0 = 1
                items = 3:-1:-1
                match 0 0 16 0 = 1
                items = 4:-1:-1
                match 0 0 24 0 = 2
                match 0 0 30 0 = 4
                match 0 0 31 0 = 7
                match 0 0 0 0 = 0
                match 0 0 32 0 = 0
                match 0 0 -32 0 = 0
                match 0 0 MIN 0 = 0
                match 0 0 -1 0 = 7
                match 0 0 MAX 0 = 7
                """);
        play("whose rank is at least so much", SMALL + """
                rank 1 1
                rank 2 2
                rank 3 3
                match 0 0 31 MIN = 7
                match 0 0 31 -1 = 7
                match 0 0 31 0 = 7
                match 0 0 31 1 = 3
                match 0 0 31 2 = 2
                items = 2:-1:-1 3:-1:-1
                match 0 0 31 3 = 1
                items = 3:-1:-1
                match 0 0 31 4 = 0
                match 0 0 31 MAX = 0
                """);
        play("none left of what was found before", SMALL + """
                match 0 0 31 0 = 7
                match 0 0 0 0 = 0
                about 2 = 0
                found 0 0 ! Index
                date 1 0 5 0 0 0
                agenda 0 LAST = 1
                match 0 0 31 0 = 7
                found 0 1 = NONE
                found 0 2 = NONE
                """);
        play("folded ones and those that are not seen too, not those that are gone", SMALL + """
                fold 0 true
                remove 1 = 3
                match 0 0 31 0 = 4
                items = 0:-1:-1 4:-1:-1 5:-1:-1 6:-1:-1
                """);
        play("all of 400", """
                400* insert ROOT 0 i
                match 0 0 31 0 = 400
                found 0 0 = 399
                found 399 0 = 0
                found 400 0 ! Index
                """);
        play("tags of those above, 12 deep", """
                12* insert i-1 0 5
                insert ROOT 1 5
                tag 0 7 true
                match 128 0 31 0 = 12
                match 0 128 31 0 = 1
                items = 12:-1:-1
                """);
    }

    private static void promise24() {
        promise = "promise 24";
        play("from one day to another one", SMALL + """
                date 1 0 100 0 0 0
                date 2 1 0 0 0 0
                date 3 1 3652058 0 0 0
                agenda 100 100 = 1
                items = 1:100:0
                agenda 99 100 = 1
                agenda 100 101 = 1
                agenda 101 101 = 0
                agenda 99 99 = 0
                agenda 101 3652057 = 0
                agenda 101 3652058 = 1
                agenda 1 99 = 0
                agenda 0 99 = 1
                agenda 0 0 = 1
                items = 2:0:1
                agenda 3652058 3652058 = 1
                items = 3:3652058:1
                agenda 3652059 MAX = 0
                agenda MIN -1 = 0
                agenda NONE NONE = 0
                agenda MIN MAX = 3
                items = 2:0:1 1:100:0 3:3652058:1
                agenda 101 100 = 0
                agenda MAX MIN = 0
                about 2 = 0
                found 0 0 ! Index
                """);
        play("at its day, or, if that is below today, at today", SMALL + """
                date 1 0 99 0 0 0
                date 2 0 100 0 0 0
                date 3 0 101 0 0 0
                today 100
                agenda 0 LAST = 3
                items = 1:100:0 2:100:0 3:101:0
                agenda 99 99 = 0
                agenda 100 100 = 2
                agenda 0 99 = 0
                agenda 101 LAST = 1
                today 101
                agenda 101 101 = 3
                items = 1:101:0 2:101:0 3:101:0
                agenda 0 100 = 0
                today 3652058
                agenda 3652058 3652058 = 3
                items = 1:3652058:0 2:3652058:0 3:3652058:0
                today 0
                agenda 99 99 = 1
                told 1 10 = 99
                """);
        play("of each entry that is not closed", SMALL + """
                date 0 0 5 0 0 0
                date 1 0 5 0 0 0
                date 2 0 5 0 0 0
                date 3 0 5 0 0 0
                date 4 0 5 0 0 0
                state 1 1
                state 2 2
                state 3 3
                state 4 4
                agenda 0 LAST = 3
                items = 0:5:0 1:5:0 2:5:0
                state 0 3
                agenda 0 LAST = 2
                state 4 0
                agenda 0 LAST = 3
                items = 1:5:0 2:5:0 4:5:0
                """);
        play("by days, due before start, by rank, the greatest first, by the order", SMALL + """
                date 0 0 5 0 0 0
                date 0 1 5 0 0 0
                date 1 0 4 0 0 0
                date 1 1 6 0 0 0
                date 2 0 5 0 0 0
                date 3 1 5 0 0 0
                date 4 0 5 0 0 0
                date 5 1 5 0 0 0
                date 6 0 6 0 0 0
                rank 6 3
                rank 4 3
                rank 3 1
                rank 5 1
                agenda 0 LAST = 9
                items = 1:4:0 3:5:1 5:5:1 0:5:1 4:5:0 0:5:0 2:5:0 1:6:1 6:6:0
                move 5 ROOT 0
                agenda 5 5 = 6
                items = 5:5:1 3:5:1 0:5:1 4:5:0 0:5:0 2:5:0
                """);
        play("both dates of one entry, below today", """
                insert ROOT 0 5
                date 0 0 3 0 0 0
                date 0 1 4 0 0 0
                today 10
                agenda 10 10 = 2
                items = 0:10:1 0:10:0
                """);
        play("folded ones, not those that are gone", SMALL + """
                date 2 0 5 0 0 0
                date 6 0 5 0 0 0
                fold 0 true
                remove 5 = 2
                agenda 0 LAST = 1
                items = 2:5:0
                """);
        play("a repeat shows its day alone", """
                insert ROOT 0 5
                date 0 0 5 1 0 1
                agenda 0 LAST = 1
                state 0 3 = 1
                agenda 0 LAST = 1
                items = 0:6:0
                """);
        play("very many, both dates of each", """
                160* insert ROOT i 5
                160* date i 0 5 0 0 0
                160* date i 1 5 0 0 0
                agenda 5 5 = 320
                found 0 0 = 0
                found 0 2 = 1
                found 159 0 = 159
                found 159 2 = 1
                found 160 0 = 0
                found 160 2 = 0
                found 319 0 = 159
                found 320 0 ! Index
                """);
    }

    private static void promise25() {
        promise = "promise 25";
        play("there is no such item", SMALL + """
                found 0 0 ! Index
                match 0 0 31 0 = 7
                found 0 0 = 0
                found 6 0 = 6
                found 7 0 ! Index
                found -1 0 ! Index
                found MIN 0 ! Index
                found MAX 0 ! Index
                match 0 0 0 0 = 0
                found 0 0 ! Index
                """);
        play("entry (0), day (1), which date (2)", SMALL + """
                date 3 1 9 0 0 0
                agenda 0 LAST = 1
                found 0 0 = 3
                found 0 1 = 9
                found 0 2 = 1
                found 0 -1 ! Argument
                found 0 3 ! Argument
                found 0 MIN ! Argument
                found 0 MAX ! Argument
                found 1 3 ! Index
                found -1 -1 ! Index
                date 3 0 NONE 0 0 0 ~
                date 3 1 NONE 0 0 0
                found 0 1 = 9
                """);
        play("the latter two NONE for what matches", SMALL + """
                date 0 0 9 0 0 0
                agenda 0 LAST = 1
                found 0 1 = 9
                match 0 0 31 0 = 7
                found 0 0 = 0
                found 0 1 = NONE
                found 0 2 = NONE
                found 6 1 = NONE
                """);
        play("it stays what it was when entries change", SMALL + """
                date 1 1 9 1 0 1
                date 4 0 8 0 0 0
                agenda 0 LAST = 2
                items = 4:8:0 1:9:1
                state 1 3 = 1
                state 4 4 = 4
                rank 1 3
                date 4 0 NONE 0 0 0
                move 4 ROOT 0
                today 100
                remove 0
                items = 4:8:0 1:9:1
                undo = true
                undo = true
                redo = true
                insert ROOT 0 5
                open
                title 4 5
                close
                items = 4:8:0 1:9:1
                match 0 0 31 0 = 8
                remove 4
                remove 0
                about 2 = 8
                found 7 0 = 6
                """);
    }

    private static void promise26() {
        promise = "promise 26";
        play("NONE when there is none", SMALL + """
                line 0 = 0
                line 6 = 6
                line 7 = NONE
                line -1 = NONE
                line MIN = NONE
                line MAX = NONE
                remove 0 = 5
                line 1 = 6
                line 2 = NONE
                remove 5 = 2
                line 0 = NONE
                """);
        play("such as have none folded above them", SMALL + """
                fold 2 true
                lines = 0 1 2 3 4 5 6
                fold 1 true
                lines = 0 1 4 5 6
                fold 5 true
                lines = 0 1 4 5
                fold 0 true
                lines = 0 5
                fold 1 false
                lines = 0 5
                fold 0 false
                lines = 0 1 2 3 4 5
                fold 6 true
                fold 5 false
                lines = 0 1 2 3 4 5 6
                """);
        play("an entry that is far below a folded one", """
                12* insert i-1 0 5
                insert ROOT 1 5
                fold 0 true
                lines = 0 12
                fold 0 false
                fold 10 true
                lines = 0 1 2 3 4 5 6 7 8 9 10 12
                fold 11 true
                fold 10 false
                lines = 0 1 2 3 4 5 6 7 8 9 10 11 12
                """);
        play("one that is moved under a folded one", SMALL + """
                fold 5 true
                move 1 5 0
                lines = 0 4 5
                promote 1
                lines = 0 4 5 1 2 3
                """);
        play("400 lines", """
                400* insert ROOT 0 i
                line 0 = 399
                line 399 = 0
                line 400 = NONE
                """);
    }

    private static void promise27() {
        promise = "promise 27";
        play("NONE when there is none", SMALL + """
                child ROOT 0 = 0
                child ROOT 1 = 5
                child ROOT 2 = NONE
                child ROOT -1 = NONE
                child ROOT MIN = NONE
                child ROOT MAX = NONE
                child 0 0 = 1
                child 0 1 = 4
                child 0 2 = NONE
                child 1 1 = 3
                child 6 0 = NONE
                child 6 -1 = NONE
                child 7 0 ! Index
                child -2 0 ! Index
                child 7 -1 ! Index
                fold 0 true
                child 0 1 = 4
                remove 4 = 1
                child 0 1 = NONE
                child 4 0 ! Index
                """);
        play("399 children", """
                insert ROOT 0 5
                399* insert 0 i 5
                child 0 398 = 399
                child 0 399 = NONE
                child 0 0 = 1
                """);
    }

    private static void promise28() {
        promise = "promise 28";
        play("of a branch, or of all entries for root", SMALL + """
                7* minutes i 0 i+1
                7* minutes i 1 1000000
                state 0 1
                state 1 2
                state 2 3
                state 3 4
                state 6 4
                sum 0 0 = 5
                sum 1 0 = 3
                sum 2 0 = 1
                sum ROOT 0 = 7
                sum 0 1 = 15
                sum 1 1 = 9
                sum 6 1 = 7
                sum ROOT 1 = 28
                sum 0 2 = 5000000
                sum 2 2 = 1000000
                sum ROOT 2 = 7000000
                sum 0 3 = 2
                sum 4 3 = 0
                sum 5 3 = 1
                sum ROOT 3 = 3
                sum 0 4 = 4
                sum 4 4 = 0
                sum 5 4 = 1
                sum ROOT 4 = 5
                fold 0 true
                sum 0 0 = 5
                remove 1 = 3
                sum 0 0 = 2
                sum ROOT 1 = 19
                sum ROOT 3 = 1
                """);
        play("what, 0 .. 4", SMALL + """
                sum ROOT -1 ! Argument
                sum ROOT 5 ! Argument
                sum 0 -1 ! Argument
                sum 0 5 ! Argument
                sum 0 MIN ! Argument
                sum 0 MAX ! Argument
                sum 7 0 ! Index
                sum -2 0 ! Index
                sum 7 5 ! Index
                """);
        play("very many minutes", """
                250* insert ROOT 0 5
                250* minutes i 0 1000000
                sum ROOT 1 = 250000000
                sum ROOT 2 = 0
                sum 249 1 = 1000000
                """);
        play("400 entries", """
                insert ROOT 0 5
                399* insert 0 0 5
                sum ROOT 0 = 400
                sum 0 0 = 400
                sum 399 0 = 1
                """);
    }

    private static void promise29() {
        promise = "promise 29";
        play("what, 0 .. 15", SMALL + """
                fields 3 = 1 1 3 13 0 0 0 0 0 0 -1 -1 0 0 0 0
                fields 0 = -1 0 1 10 0 0 0 0 2 0 -1 -1 0 0 0 0
                told 0 -1 ! Argument
                told 0 16 ! Argument
                told 0 MIN ! Argument
                told 0 MAX ! Argument
                told 7 0 ! Index
                told ROOT 0 ! Index
                told -2 0 ! Index
                told 7 16 ! Index
                """);
        play("the greatest of each", """
                11* insert i-1 0 5
                389* insert 10 0 999999
                24* tag 10 i true
                state 10 4
                rank 10 3
                fold 10 true
                date 10 0 3652058 3 3 99
                date 10 1 3652058 2 3 99
                minutes 10 0 1000000
                minutes 10 1 1000000
                title 10 999999
                fields 10 = 9 0 11 999999 4 3 16777215 16777215 389 1 3652058 3652058 1000000 1000000 9933 9932
                fields 11 = 10 388 12 999999 0 0 0 16777215 0 0 -1 -1 0 0 0 0
                """);
        play("kind + 10 unit + 100 count (0 for none)", SMALL + """
                date 0 0 0 1 0 1
                told 0 14 = 101
                told 0 15 = 0
                date 0 1 0 2 1 10
                told 0 15 = 1012
                date 0 0 0 3 2 99
                told 0 14 = 9923
                date 0 0 0 0 2 99
                told 0 14 = 0
                told 0 10 = 0
                date 0 1 NONE 2 2 2
                told 0 15 = 0
                told 0 11 = NONE
                """);
        play("under which it stands, and its place, behind branches", SMALL + """
                told 5 0 = ROOT
                told 5 1 = 1
                told 4 0 = 0
                told 4 1 = 1
                told 6 0 = 5
                told 6 1 = 0
                told 3 0 = 1
                told 3 1 = 1
                told 1 8 = 2
                told 0 8 = 2
                told 6 8 = 0
                """);
    }

    private static void promise30() {
        promise = "promise 30";
        play("what, 0 .. 3", SMALL + """
                about -1 ! Argument
                about 4 ! Argument
                about MIN ! Argument
                about MAX ! Argument
                about 0 = 7
                about 1 = 7
                about 2 = 0
                about 3 = 0
                """);
        play("there, made in all, found, today", SMALL + """
                remove 1 = 3
                about 0 = 4
                about 1 = 7
                match 0 0 31 0 = 4
                about 2 = 4
                undo = true
                about 0 = 7
                about 2 = 4
                undo = true
                about 0 = 6
                about 1 = 7
                insert ROOT 0 5 = 7
                about 0 = 7
                about 1 = 8
                agenda 0 LAST = 0
                about 2 = 0
                today LAST
                about 3 = 3652058
                """);
        play("full", """
                400* insert ROOT 0 i
                about 0 = 400
                about 1 = 400
                insert ROOT 0 5 ! Unsupported
                about 1 = 400
                match 0 0 31 0 = 400
                about 2 = 400
                """);
    }

    public static void main(String[] args) {
        promise1();
        promise2();
        promise3();
        promise4();
        promise5();
        promise6();
        promise7();
        promise8();
        promise9();
        promise10();
        promise11();
        promise12();
        promise13();
        promise14();
        promise15();
        promise16();
        promise17();
        promise18();
        promise19();
        promise20();
        promise21();
        promise22();
        promise23();
        promise24();
        promise25();
        promise26();
        promise27();
        promise28();
        promise29();
        promise30();
        CHECK.end("BoundariesTest");
    }
}
