/** A test for each sentence of the document's Terms that names a limit, an edge or a refusal. */
public final class TermsTest {
    private static final Check CHECK = new Check();
    private static final Runs RUNS = new Runs(CHECK);

    private static void play(String name, String script) {
        RUNS.play("terms: " + name, script);
    }

    private static void numbersOfEntries() {
        play("numbers 0, 1, .. in the order in which they are made", """
                insert ROOT 0 5 = 0
                insert ROOT 0 5 = 1
                insert 0 0 5 = 2
                insert ROOT 0 5 = 3
                tree = 3 1 0(2)
                """);
        play("400 in all", """
                399* insert ROOT 0 i = i
                about 1 = 399
                insert ROOT 399 5 = 399
                about 0 = 400
                about 1 = 400
                insert ROOT 0 5 ! Unsupported
                insert ROOT 400 999999 ! Unsupported
                insert 399 0 5 ! Unsupported
                told 399 1 = 399
                told 400 0 ! Index
                """);
        play("400 in all, also under one another", """
                2* insert i-1 0 5
                398* insert 1 i i = i+2
                told 1 8 = 398
                told 399 1 = 397
                insert 1 0 5 ! Unsupported
                """);
        play("one whose making is undone keeps its number", """
                insert ROOT 0 5 = 0
                insert ROOT 0 6 = 1
                undo = true
                about 0 = 1
                about 1 = 2
                told 1 3 ! Index
                redo = true
                told 1 3 = 6
                undo = true
                insert ROOT 0 7 = 2
                redo = false
                told 1 3 ! Index
                about 0 = 2
                about 1 = 3
                """);
        play("one whose making is undone counts", """
                399* insert ROOT 0 i
                undo = true
                about 0 = 398
                insert ROOT 0 5 = 399
                insert ROOT 0 5 ! Unsupported
                undo = true
                about 0 = 398
                about 1 = 400
                insert ROOT 0 5 ! Unsupported
                redo = true
                told 399 3 = 5
                """);
        play("one whose making is undone in a group counts", """
                398* insert ROOT 0 i
                open
                insert ROOT 0 5 = 398
                insert 398 0 5 = 399
                insert 398 0 5 ! Unsupported
                close = 60
                undo = true
                about 0 = 398
                insert ROOT 0 5 ! Unsupported
                redo = true
                told 399 0 = 398
                """);
        play("one that was removed counts", """
                400* insert ROOT 0 i
                remove 0 = 1
                about 0 = 399
                about 1 = 400
                insert ROOT 0 5 ! Unsupported
                """);
        play("a refused insert takes no number", """
                insert 0 0 5 ! Index
                insert ROOT 1 5 ! Argument
                insert ROOT 0 -1 ! Argument
                insert ROOT 0 5 = 0
                """);
    }

    private static void thereOrNot() {
        play("one is there or not", """
                insert ROOT 0 5 = 0
                insert 0 0 6 = 1
                remove 0 = 2
                told 0 3 ! Index
                told 1 3 ! Index
                insert 1 0 5 ! Index
                undo = true
                told 1 3 = 6
                undo = true
                told 1 3 ! Index
                told 0 3 = 5
                undo = true
                told 0 3 ! Index
                redo = true
                redo = true
                told 1 0 = 0
                redo = true
                told 1 0 ! Index
                """);
    }

    private static void depth() {
        play("as deep as 1 more than that, at most 12", """
                12* insert i-1 0 5 = i
                told 0 2 = 1
                told 1 2 = 2
                told 10 2 = 11
                told 11 2 = 12
                insert 11 0 5 ! Unsupported
                insert 10 0 5 = 12
                told 12 2 = 12
                insert 12 0 5 ! Unsupported
                insert 10 2 5 = 13
                tree = 0(1(2(3(4(5(6(7(8(9(10(12 11 13)))))))))))
                """);
        play("12 deep by moves", """
                11* insert i-1 0 5
                insert ROOT 1 5 = 11
                insert ROOT 2 5 = 12
                insert 12 0 5 = 13
                move 12 10 0 ! Unsupported
                move 13 10 0
                told 13 2 = 12
                move 11 13 0 ! Unsupported
                move 11 10 1
                told 11 2 = 12
                demote 11 ! Unsupported
                """);
    }

    private static void branchAndOrder() {
        play("its branch is itself and all under it", """
                insert ROOT 0 5 = 0
                sum 0 0 = 1
                insert 0 0 5 = 1
                insert 1 0 5 = 2
                insert ROOT 1 5 = 3
                sum 0 0 = 3
                sum 1 0 = 2
                sum 2 0 = 1
                move 0 2 0 ! State
                move 0 0 0 ! State
                move 0 3 0
                tree = 3(0(1(2)))
                """);
        play("the order", """
                insert ROOT 0 5 = 0
                insert ROOT 0 5 = 1
                insert 0 0 5 = 2
                insert 0 0 5 = 3
                insert 3 0 5 = 4
                insert 1 0 5 = 5
                lines = 1 5 0 3 4 2
                match 0 0 31 0 = 6
                items = 1:-1:-1 5:-1:-1 0:-1:-1 3:-1:-1 4:-1:-1 2:-1:-1
                """);
    }

    private static void atFirst() {
        play("all these are 0, none and not folded at first, but for the title", """
                insert ROOT 0 999999 = 0
                fields 0 = -1 0 1 999999 0 0 0 0 0 0 -1 -1 0 0 0 0
                insert 0 0 0 = 1
                fields 1 = 0 0 2 0 0 0 0 0 0 0 -1 -1 0 0 0 0
                """);
        play("also of one that is made when another one is gone", """
                insert ROOT 0 7 = 0
                state 0 4 = 4
                rank 0 3
                tag 0 23 true
                date 0 0 5 1 1 1
                date 0 1 6 2 2 2
                minutes 0 0 8
                minutes 0 1 9
                fold 0 true
                remove 0 = 1
                insert ROOT 0 3 = 1
                fields 1 = -1 0 1 3 0 0 0 0 0 0 -1 -1 0 0 0 0
                undo = true
                undo = true
                fields 0 = -1 0 1 7 4 3 8388608 8388608 0 1 5 6 8 9 111 222
                """);
    }

    private static void allTags() {
        play("all tags are its own and those of all above it", """
                12* insert i-1 0 5
                insert ROOT 1 5 = 12
                insert 0 1 5 = 13
                12* tag i i true
                tag 12 22 true
                tag 13 23 true
                told 0 7 = 1
                told 1 7 = 3
                told 11 7 = 4095
                told 11 6 = 2048
                told 12 7 = 4194304
                told 13 7 = 8388609
                tag 11 0 true
                told 11 7 = 4095
                tag 0 0 false
                told 11 7 = 4095
                told 10 7 = 2046
                """);
        play("not those of others before it", """
                insert ROOT 0 5 = 0
                insert 0 0 5 = 1
                insert 1 0 5 = 2
                insert ROOT 1 5 = 3
                insert 3 0 5 = 4
                insert 3 1 5 = 5
                insert 5 0 5 = 6
                insert 5 1 5 = 7
                tag 0 0 true
                tag 1 1 true
                tag 2 2 true
                tag 3 3 true
                tag 4 4 true
                tag 5 5 true
                tag 6 6 true
                told 6 7 = 104
                told 7 7 = 40
                told 5 7 = 40
                told 4 7 = 24
                told 3 7 = 8
                told 2 7 = 7
                match 8 0 31 0 = 5
                match 1 0 31 0 = 3
                match 0 16 31 0 = 7
                match 0 1 31 0 = 5
                match 40 0 31 0 = 3
                items = 5:-1:-1 6:-1:-1 7:-1:-1
                """);
        play("not those of others behind it, or that are not there", """
                3* insert ROOT i 5
                3* tag i i true
                insert 1 0 5 = 3
                told 1 7 = 2
                told 3 7 = 2
                remove 0 = 1
                told 1 7 = 2
                told 3 7 = 2
                told 2 7 = 4
                remove 3 = 1
                told 1 7 = 2
                told 2 7 = 4
                match 4 0 31 0 = 1
                undo = true
                undo = true
                told 3 7 = 2
                """);
        play("24 bits", """
                insert ROOT 0 5 = 0
                24* tag 0 i true
                told 0 6 = 16777215
                told 0 7 = 16777215
                tag 0 24 true ! Argument
                tag 0 24 false ! Argument
                tag 0 -1 true ! Argument
                tag 0 -1 false ! Argument
                tag 0 31 true ! Argument
                tag 0 32 true ! Argument
                24* tag 0 i false
                told 0 6 = 0
                """);
    }

    private static void days() {
        play("days are 0 .. 3652058", """
                today LAST = 0
                today 0 = 3652058
                today -1 ! Argument
                today 3652059 ! Argument
                today MIN ! Argument
                today MAX ! Argument
                insert ROOT 0 5 = 0
                date 0 0 0 0 0 0
                date 0 1 3652058 0 0 0
                date 0 0 -2 0 0 0 ! Argument
                date 0 1 3652059 0 0 0 ! Argument
                date 0 0 MIN 0 0 0 ! Argument
                date 0 0 MAX 0 0 0 ! Argument
                calendar 0 0 = 1
                calendar 3652058 0 = 9999
                calendar -1 0 ! Argument
                calendar 3652059 0 ! Argument
                """);
        play("the first one January 1 of the year 1, the last one December 31 of the year 9999", """
                day 1 1 1 = 0
                day 1 1 2 = 1
                day 9999 12 31 = 3652058
                day 9999 12 30 = 3652057
                calendar 0 1 = 1
                calendar 0 2 = 1
                calendar 3652058 1 = 12
                calendar 3652058 2 = 31
                """);
        play("each fourth year has February 29", """
                day 4 2 29 = 1154
                day 4 3 1 = 1155
                day 3 2 29 ! Argument
                day 1 2 29 ! Argument
                day 2 2 29 ! Argument
                day 2023 2 29 ! Argument
                day 2024 2 29 = 2024-02-29
                day 2025 2 29 ! Argument
                day 2026 2 29 ! Argument
                day 9996 2 29 = 9996-02-29
                day 9999 2 29 ! Argument
                calendar 1154 1 = 2
                calendar 1154 2 = 29
                calendar 1155 1 = 3
                """);
        play("but for those of hundreds that 400 does not divide", """
                day 100 2 29 ! Argument
                day 200 2 29 ! Argument
                day 300 2 29 ! Argument
                day 400 2 29 = 0400-02-29
                day 1700 2 29 ! Argument
                day 1800 2 29 ! Argument
                day 1900 2 29 ! Argument
                day 2000 2 29 = 2000-02-29
                day 2100 2 29 ! Argument
                day 9900 2 29 ! Argument
                day 9600 2 29 = 9600-02-29
                day 1900 2 28 = 1900-02-28
                day 1900 3 1 = 1900-03-01
                day 100 12 31 = 0100-12-31
                day 101 1 1 = 0101-01-01
                day 400 12 31 = 0400-12-31
                day 401 1 1 = 146097
                """);
        play("today is a day, at first 0", """
                about 3 = 0
                today 5 = 0
                about 3 = 5
                """);
    }

    private static void repeats() {
        play("a kind 0 .. 3, a unit 0 .. 3, a count 1 .. 99", """
                insert ROOT 0 5 = 0
                date 0 0 5 1 0 1
                told 0 14 = 101
                date 0 0 5 3 3 99
                told 0 14 = 9933
                date 0 1 5 2 1 98
                told 0 15 = 9812
                date 0 0 5 -1 0 1 ! Argument
                date 0 0 5 4 0 1 ! Argument
                date 0 0 5 1 -1 1 ! Argument
                date 0 0 5 1 4 1 ! Argument
                date 0 0 5 1 0 0 ! Argument
                date 0 0 5 1 0 100 ! Argument
                date 0 0 5 1 0 -1 ! Argument
                date 0 1 5 2 4 1 ! Argument
                date 0 1 5 3 0 100 ! Argument
                date 0 1 5 3 0 0 ! Argument
                date 0 0 5 MAX 0 1 ! Argument
                date 0 0 5 1 MIN 1 ! Argument
                date 0 0 5 1 0 MAX ! Argument
                """);
    }

    /** What a date becomes when the entry is done on a day. */
    private static void moves(String name, String today, String date, String repeat, String due) {
        play(name + ", " + date + " by " + repeat, """
                insert ROOT 0 5 = 0
                today %s
                date 0 0 %s %s
                date 0 1 %s %s
                state 0 3 = 1
                told 0 10 = %s
                told 0 11 = %s
                """.formatted(today, date, repeat, date, repeat, due, due));
    }

    private static void oneStep() {
        String days = "so many days or weeks later";
        moves(days, "0", "2024-02-28", "1 0 1", "2024-02-29");
        moves(days, "0", "2023-02-28", "1 0 1", "2023-03-01");
        moves(days, "0", "2023-12-31", "1 0 1", "2024-01-01");
        moves(days, "0", "0", "1 0 99", "99");
        moves(days, "0", "2023-12-31", "1 1 1", "2024-01-07");
        moves(days, "0", "0", "1 1 99", "693");
        String months = "the same day so many months later";
        moves(months, "0", "2023-01-01", "1 2 1", "2023-02-01");
        moves(months, "0", "2023-11-30", "1 2 1", "2023-12-30");
        moves(months, "0", "2023-12-15", "1 2 1", "2024-01-15");
        moves(months, "0", "2023-12-31", "1 2 12", "2024-12-31");
        moves(months, "0", "2023-12-31", "1 2 13", "2025-01-31");
        moves(months, "0", "2023-01-31", "1 2 11", "2023-12-31");
        moves(months, "0", "2000-01-31", "1 2 99", "2008-04-30");
        String years = "12 for a year";
        moves(years, "0", "2023-07-31", "1 3 1", "2024-07-31");
        moves(years, "0", "2023-12-31", "1 3 99", "2122-12-31");
        moves(years, "0", "0001-01-01", "1 3 1", "365");
        String cut = "or the last one of that month if it has not so many";
        moves(cut, "0", "2023-01-31", "1 2 1", "2023-02-28");
        moves(cut, "0", "2023-01-30", "1 2 1", "2023-02-28");
        moves(cut, "0", "2023-01-29", "1 2 1", "2023-02-28");
        moves(cut, "0", "2023-01-28", "1 2 1", "2023-02-28");
        moves(cut, "0", "2023-01-27", "1 2 1", "2023-02-27");
        moves(cut, "0", "2024-01-31", "1 2 1", "2024-02-29");
        moves(cut, "0", "2024-01-29", "1 2 1", "2024-02-29");
        moves(cut, "0", "2024-01-28", "1 2 1", "2024-02-28");
        moves(cut, "0", "1900-01-31", "1 2 1", "1900-02-28");
        moves(cut, "0", "2000-01-31", "1 2 1", "2000-02-29");
        moves(cut, "0", "2023-03-31", "1 2 1", "2023-04-30");
        moves(cut, "0", "2023-03-30", "1 2 1", "2023-04-30");
        moves(cut, "0", "2023-02-28", "1 2 1", "2023-03-28");
        moves(cut, "0", "2023-12-31", "1 2 2", "2024-02-29");
        moves(cut, "0", "2024-02-29", "1 3 1", "2025-02-28");
        moves(cut, "0", "2024-02-29", "1 3 4", "2028-02-29");
        moves(cut, "0", "2096-02-29", "1 3 4", "2100-02-28");
        moves(cut, "0", "2024-02-29", "1 2 12", "2025-02-28");
    }

    private static void kinds() {
        String once = "kind 1 one step";
        moves(once, "1000", "10", "1 0 5", "15");
        moves(once, "15", "10", "1 0 5", "15");
        moves(once, "0", "10", "1 0 5", "15");
        String until = "kind 2 one step, and another one as long as it is not above today";
        moves(until, "14", "10", "2 0 5", "15");
        moves(until, "15", "10", "2 0 5", "20");
        moves(until, "16", "10", "2 0 5", "20");
        moves(until, "19", "10", "2 0 5", "20");
        moves(until, "20", "10", "2 0 5", "25");
        moves(until, "10", "10", "2 0 5", "15");
        moves(until, "0", "10", "2 0 5", "15");
        moves(until, "6", "0", "2 1 1", "7");
        moves(until, "7", "0", "2 1 1", "14");
        moves(until, "3652057", "0", "2 0 1", "3652058");
        moves(until, "3652000", "0", "2 1 1", "3652005");
        moves(until, "2023-03-14", "2023-01-15", "2 2 1", "2023-03-15");
        moves(until, "2023-03-15", "2023-01-15", "2 2 1", "2023-04-15");
        moves(until, "2023-03-16", "2023-01-15", "2 2 1", "2023-04-15");
        moves(until, "2023-01-15", "2023-01-15", "2 2 1", "2023-02-15");
        moves(until, "2022-01-15", "2023-01-15", "2 2 1", "2023-02-15");
        moves(until, "2028-02-28", "2024-02-29", "2 3 4", "2028-02-29");
        moves(until, "2028-02-29", "2024-02-29", "2 3 4", "2032-02-29");
        moves(until, "2103-06-01", "2096-02-29", "2 3 4", "2104-02-28");
        moves(until, "2103-06-01", "2092-02-29", "2 3 4", "2104-02-28");
        moves(until, "2899-12-31", "1604-02-29", "2 3 36", "2900-02-28");
        moves(until, "2900-02-28", "1604-02-29", "2 3 36", "2936-02-28");
        moves(until, "2023-03-01", "2022-12-29", "2 2 1", "2023-03-28");
        moves(until, "2024-03-01", "2023-12-29", "2 2 1", "2024-03-29");
        moves(until, "2024-03-01", "2023-12-30", "2 2 1", "2024-03-29");
        moves(until, "2023-05-29", "2023-01-30", "2 2 2", "2023-05-30");
        moves(until, "2023-02-27", "2023-01-31", "2 2 1", "2023-02-28");
        moves(until, "2023-02-28", "2023-01-31", "2 2 1", "2023-03-28");
        moves(until, "2023-08-01", "2023-01-31", "2 2 2", "2023-09-30");
        moves(until, "2023-08-30", "2023-07-31", "2 2 1", "2023-08-31");
        moves(until, "2023-08-31", "2023-07-31", "2 2 1", "2023-09-30");
        moves(until, "2023-01-30", "2022-12-30", "2 2 1", "2023-02-28");
        moves(until, "2024-01-31", "2023-10-31", "2 2 3", "2024-04-30");
        moves(until, "2096-02-29", "2092-02-29", "2 3 4", "2100-02-28");
        moves(until, "9999-11-29", "0001-01-31", "2 2 1", "9999-12-28");
        moves(until, "9999-11-30", "0001-01-01", "2 2 1", "9999-12-01");
        moves(until, "9998-12-31", "0001-12-31", "2 3 1", "9999-12-31");
        String from = "kind 3 one step from today";
        moves(from, "100", "10", "3 0 5", "105");
        moves(from, "100", "100", "3 0 5", "105");
        moves(from, "100", "1000", "3 0 5", "105");
        moves(from, "0", "1000", "3 1 1", "7");
        moves(from, "2023-01-31", "10", "3 2 1", "2023-02-28");
        moves(from, "2024-02-29", "10", "3 3 1", "2025-02-28");
        moves(from, "3652057", "10", "3 0 1", "3652058");
    }

    private static void steps() {
        play("each that changes something is a step", """
                insert ROOT 0 5
                insert ROOT 1 6
                insert 0 0 7
                insert 0 1 7
                move 0 ROOT 0 ~
                move 1 ROOT 1 ~
                move 3 0 1 ~
                title 0 5 ~
                state 0 0 = 0 ~
                rank 0 0 ~
                tag 0 3 false ~
                date 0 0 NONE 1 1 1 ~
                date 0 1 NONE 0 0 0 ~
                minutes 0 0 0 ~
                minutes 0 1 0 ~
                fold 0 false ~
                sort ROOT 0 ~
                sort ROOT 1 ~
                sort ROOT 2 ~
                sort ROOT 3 ~
                sort ROOT 4 ~
                sort 0 0 ~
                sort 1 0 ~
                steps 0 = 4
                move 0 ROOT 1
                promote 3
                demote 3
                title 0 6
                state 0 1
                rank 0 1
                tag 0 3 true
                date 0 0 9 1 1 1
                date 0 0 9 1 1 2
                minutes 0 0 1
                minutes 0 1 1
                fold 0 true
                sort ROOT 4
                remove 1
                steps 0 = 18
                """);
        play("what is no edit is no step", """
                insert ROOT 0 5
                title 0 6
                undo = true
                today 7 = 0
                match 0 0 31 0 = 1
                agenda 0 LAST = 0
                found 0 0 ! Index
                day 2024 1 1
                calendar 0 0
                line 0
                child 0 0
                sum 0 0
                told 0 3
                about 0
                steps 0 = 1
                steps 1 = 1
                redo = true
                told 0 3 = 6
                undo = true
                undo = true
                about 3 = 7
                """);
    }

    private static void groups() {
        play("while a group is open all of them are one step together", """
                insert ROOT 0 5
                open
                insert 0 0 6 = 1
                title 1 7
                title 0 8
                demote 1 ! State
                move 1 ROOT 0
                remove 0 = 1
                steps 0 = 1
                steps 2 = 5
                close = 2
                steps 2 = 0
                tree = 1
                undo = true
                tree = 0
                told 0 3 = 5
                redo = true
                tree = 1
                told 1 3 = 7
                """);
        play("none, if no edit changed something", """
                insert ROOT 0 5
                open
                close = 1
                open
                title 0 5 ~
                title 0 -1 ! Argument
                close = 1
                undo = true
                about 0 = 0
                """);
        play("one also if they bring all back", """
                insert ROOT 0 5
                open
                title 0 6
                title 0 5
                steps 2 = 2
                close = 2
                undo = true
                told 0 3 = 5
                steps 0 = 1
                steps 1 = 1
                redo = true
                told 0 3 = 5
                """);
        play("one also if an entry is made and removed", """
                open
                insert ROOT 0 5 = 0
                remove 0 = 1
                close = 1
                undo = true
                about 0 = 0
                redo = true
                about 0 = 0
                about 1 = 1
                insert ROOT 0 5 = 1
                """);
    }

    private static void sixtySteps() {
        play("the latest 60 steps can be undone: 59", """
                insert ROOT 0 0
                58* title 0 i+1
                steps 0 = 59
                59* undo = true
                undo = false
                about 0 = 0
                59* redo = true
                redo = false
                told 0 3 = 58
                """);
        play("60", """
                insert ROOT 0 0
                59* title 0 i+1
                steps 0 = 60
                60* undo = true
                undo = false
                about 0 = 0
                steps 1 = 60
                60* redo = true
                redo = false
                told 0 3 = 59
                """);
        play("61", """
                insert ROOT 0 0
                60* title 0 i+1
                steps 0 = 60
                60* undo = true
                undo = false
                told 0 3 = 0
                steps 0 = 0
                steps 1 = 60
                60* redo = true
                redo = false
                told 0 3 = 60
                """);
        play("many more", """
                insert ROOT 0 0
                199* title 0 i+1
                steps 0 = 60
                10* undo = true
                told 0 3 = 189
                steps 0 = 50
                steps 1 = 10
                5* redo = true
                told 0 3 = 194
                title 0 500
                steps 0 = 56
                steps 1 = 0
                4* title 0 i+501
                steps 0 = 60
                title 0 505
                steps 0 = 60
                60* undo = true
                told 0 3 = 140
                undo = false
                60* redo = true
                told 0 3 = 505
                redo = false
                """);
        play("a group is one of them", """
                insert ROOT 0 0
                59* title 0 i+1
                open
                title 0 100
                steps 0 = 60
                title 0 101
                close = 60
                60* undo = true
                undo = false
                told 0 3 = 0
                60* redo = true
                told 0 3 = 101
                """);
        play("a group without changes pushes none out", """
                insert ROOT 0 0
                59* title 0 i+1
                open
                title 0 59 ~
                close = 60
                60* undo = true
                about 0 = 0
                """);
    }

    private static void redoing() {
        play("what was undone can be redone, the latest first", """
                insert ROOT 0 0
                title 0 1
                title 0 2
                title 0 3
                undo = true
                undo = true
                undo = true
                redo = true
                told 0 3 = 1
                redo = true
                told 0 3 = 2
                undo = true
                told 0 3 = 1
                redo = true
                redo = true
                told 0 3 = 3
                redo = false ~
                """);
        play("until there is a new step", """
                insert ROOT 0 0
                title 0 1
                title 0 2
                undo = true
                title 0 1 ~
                title 0 MAX ! Argument
                steps 1 = 1
                title 0 3
                steps 1 = 0
                redo = false ~
                undo = true
                told 0 3 = 1
                redo = true
                told 0 3 = 3
                """);
        play("or, in a group, an edit that changes something", """
                insert ROOT 0 0
                title 0 1
                undo = true
                open
                steps 1 = 1
                title 0 0 ~
                title 0 -1 ! Argument
                steps 1 = 1
                title 0 2
                steps 1 = 0
                title 0 0
                close = 2
                steps 1 = 0
                redo = false
                """);
        play("a group that changed nothing leaves it", """
                insert ROOT 0 0
                title 0 1
                undo = true
                open
                title 0 0 ~
                close = 1
                steps 1 = 1
                redo = true
                told 0 3 = 1
                """);
    }

    /** Every call that takes an entry refuses one that is not there, and root unless it says so. */
    private static void notThere() {
        String[] calls = {"insert %s 0 5", "remove %s", "move %s ROOT 0", "move 0 %s 0", "promote %s", "demote %s",
            "title %s 5", "state %s 1", "rank %s 1", "tag %s 1 true", "date %s 0 5 0 0 0", "date %s 0 NONE 0 0 0",
            "minutes %s 0 5", "fold %s true", "sort %s 0", "child %s 0", "sum %s 0", "told %s 0"};
        String[] ids = {"6", "-2", "MIN", "MAX", "400", "399", "1", "2", "5"};
        // 0 and 3(4) are there; 1(2) was removed, 5 was undone, 6 was never made.
        String scene = """
                insert ROOT 0 10 = 0
                insert ROOT 1 11 = 1
                insert 1 0 12 = 2
                insert ROOT 2 13 = 3
                insert 3 0 14 = 4
                remove 1 = 2
                insert 3 1 15 = 5
                undo = true
                """;
        for (String call : calls) {
            StringBuilder script = new StringBuilder(scene);
            for (String id : ids) {
                script.append(call.formatted(id)).append(" ! Index\n");
            }
            play("the entry is not there", script.toString());
        }
        String[] notOfRoot = {"remove ROOT", "move ROOT 0 0", "move ROOT ROOT 0", "promote ROOT", "demote ROOT",
            "title ROOT 5", "state ROOT 1", "rank ROOT 1", "tag ROOT 1 true", "date ROOT 0 5 0 0 0",
            "minutes ROOT 0 5", "fold ROOT true", "told ROOT 0"};
        for (String call : notOfRoot) {
            play("root neither", scene + call + " ! Index\n");
        }
        play("unless the call says so", scene + """
                title 3 9
                insert ROOT 2 5 = 6
                move 4 ROOT 0
                sort ROOT 0
                tree = 6 3 0 4
                child ROOT 1 = 3
                sum ROOT 0 = 4
                """);
    }

    /** Of several exceptions that fit the one named first is thrown. */
    private static void firstNamed() {
        play("of several exceptions that fit the one named first is thrown", """
                12* insert i-1 0 5
                insert ROOT 1 5 = 12
                insert 12 0 5 = 13
                insert 14 -1 -1 ! Index
                insert 11 -1 5 ! Argument
                insert 11 1 5 ! Argument
                insert 11 0 1000000 ! Argument
                insert 11 0 5 ! Unsupported
                move 14 0 -1 ! Index
                move 0 14 -1 ! Index
                move ROOT 0 -1 ! Index
                move 0 11 -1 ! State
                move 0 11 0 ! State
                move 0 0 9 ! State
                move 12 11 1 ! Argument
                move 12 11 -1 ! Argument
                move 12 11 0 ! Unsupported
                promote 14 ! Index
                promote 0 ! State
                demote 14 ! Index
                demote 0 ! State
                demote 11 ! State
                demote 13 ! State
                demote 12
                title 14 -1 ! Index
                state 14 5 ! Index
                rank 14 4 ! Index
                tag 14 24 true ! Index
                date 14 2 -2 4 4 0 ! Index
                minutes 14 2 -1 ! Index
                sort 14 5 ! Index
                found 0 3 ! Index
                sum 14 5 ! Index
                told 14 16 ! Index
                date 0 0 LAST 1 0 1
                state 0 5 ! Argument
                state 0 3 ! Unsupported
                """);
        play("the number of entries is named behind the place and the title", """
                400* insert ROOT 0 i
                insert ROOT 401 5 ! Argument
                insert ROOT 0 -1 ! Argument
                insert 400 0 5 ! Index
                insert ROOT 400 5 ! Unsupported
                """);
    }

    private static void calls() {
        play("at most 512 calls: many entries and steps", """
                400* insert ROOT 0 i = i
                110* title i i+1000
                undo = true
                told 109 3 = 109
                """);
        play("at most 512 calls: one group", """
                insert ROOT 0 0
                open
                507* title 0 i+1
                close = 2
                undo = true
                told 0 3 = 0
                """);
        play("at most 512 calls: undo and redo", """
                insert ROOT 0 0
                90* title 0 i+1
                60* undo = true
                60* redo = true
                60* undo = true
                60* redo = true
                60* undo = true
                60* redo = true
                60* undo = true
                told 0 3 = 30
                """);
    }

    public static void main(String[] args) {
        numbersOfEntries();
        thereOrNot();
        depth();
        branchAndOrder();
        atFirst();
        allTags();
        days();
        repeats();
        oneStep();
        kinds();
        steps();
        groups();
        sixtySteps();
        redoing();
        notThere();
        firstNamed();
        calls();
        CHECK.end("TermsTest");
    }
}
