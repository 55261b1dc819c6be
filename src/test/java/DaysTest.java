import java.time.LocalDate;
import java.util.Random;

/** Every day of the calendar, and many moves of dates, against java.time. */
public final class DaysTest {
    private static final int LAST_DAY = 3652058;
    private static final int CALLS = 500;
    private static final int MOVES = 40000;

    private static final Check CHECK = new Check();

    private static void everyDay() {
        LocalDate date = LocalDate.of(1, 1, 1);
        OutlineDesk desk = new OutlineDesk();
        for (int day = 0; day <= LAST_DAY; day++) {
            if (day % (CALLS / 5) == 0) {
                desk = new OutlineDesk();
            }
            CHECK.due("year of " + day, desk.calendar(day, 0), date.getYear());
            CHECK.due("month of " + day, desk.calendar(day, 1), date.getMonthValue());
            CHECK.due("day of " + day, desk.calendar(day, 2), date.getDayOfMonth());
            CHECK.due("weekday of " + day, desk.calendar(day, 3), date.getDayOfWeek().getValue() - 1);
            CHECK.due("number of " + date, desk.day(date.getYear(), date.getMonthValue(), date.getDayOfMonth()), day);
            date = date.plusDays(1);
        }
    }

    private static void everyMonthsEnd() {
        OutlineDesk desk = new OutlineDesk();
        for (int month = 0; month < 9999 * 12; month++) {
            if (month % CALLS == 0) {
                desk = new OutlineDesk();
            }
            LocalDate first = LocalDate.of(month / 12 + 1, month % 12 + 1, 1);
            OutlineDesk asked = desk;
            CHECK.dueThrow("day behind the last of " + first, Check.ARGUMENT,
                    () -> asked.day(first.getYear(), first.getMonthValue(), first.lengthOfMonth() + 1));
        }
    }

    /** A day near the end of a month, where steps of months are cut. */
    private static int day(Random random) {
        int year = random.nextInt(3) == 0 ? 1 + random.nextInt(9999) : 1896 + random.nextInt(210);
        LocalDate first = LocalDate.of(year, 1 + random.nextInt(12), 1);
        int back = random.nextInt(random.nextBoolean() ? 4 : first.lengthOfMonth());
        LocalDate date = first.plusDays(first.lengthOfMonth() - 1 - back);
        return (int) (date.toEpochDay() - LocalDate.of(1, 1, 1).toEpochDay());
    }

    private static void moves() {
        Random random = new Random(5);
        for (int i = 0; i < MOVES; i++) {
            int day = day(random);
            int today = day(random);
            int unit = random.nextInt(40) == 0 ? random.nextInt(2) : 2 + random.nextInt(2);
            int[] repeat = {1 + random.nextInt(3), unit, 1 + random.nextInt(random.nextBoolean() ? 99 : 12)};
            String what = "moved " + day + " on " + today + " by " + repeat[0] + " " + repeat[1] + " " + repeat[2];
            CHECK.due(what, moved(day, repeat, today), due(PlainDesk.moved(day, repeat, today)));
        }
    }

    /** Today is a day on which one of the steps ends, or one beside it. */
    private static void movesToToday() {
        Random random = new Random(6);
        for (int i = 0; i < MOVES; i++) {
            int day = day(random);
            int[] step = {1, random.nextInt(4), 1 + random.nextInt(random.nextBoolean() ? 99 : 4)};
            int today = day;
            for (int steps = random.nextInt(4); steps >= 0; steps--) {
                today = PlainDesk.moved(today, step, 0);
            }
            today = Math.min(Math.max(today + random.nextInt(3) - 1, 0), LAST_DAY);
            int[] repeat = {2, step[1], step[2]};
            CHECK.due("moved " + day + " on " + today + " by " + step[1] + " " + step[2], moved(day, repeat, today),
                    due(PlainDesk.moved(day, repeat, today)));
        }
    }

    private static void longMoves() {
        int[] ends = {0, 30, 58, 1154, 1489};
        for (int day : ends) {
            for (int count = 1; count <= 99; count++) {
                for (int unit = 2; unit <= 3; unit++) {
                    int[] repeat = {2, unit, count};
                    int today = 3600000 + count * 31;
                    CHECK.due("moved " + day + " by " + unit + " " + count, moved(day, repeat, today),
                            due(PlainDesk.moved(day, repeat, today)));
                }
            }
        }
    }

    private static String due(int day) {
        return day > LAST_DAY ? "throws java.lang.UnsupportedOperationException" : Integer.toString(day);
    }

    private static String moved(int day, int[] repeat, int today) {
        OutlineDesk desk = new OutlineDesk();
        desk.insert(OutlineDesk.ROOT, 0, 0);
        desk.today(today);
        desk.date(0, 1, day, repeat[0], repeat[1], repeat[2]);
        return Check.answerOf(() -> {
            desk.state(0, 3);
            return desk.told(0, 11);
        });
    }

    public static void main(String[] args) {
        everyDay();
        everyMonthsEnd();
        moves();
        movesToToday();
        longMoves();
        CHECK.end("DaysTest");
    }
}
