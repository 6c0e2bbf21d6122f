import java.time.LocalDate;

/** What promises 16 to 18 lean on: the edges of weekdays, months, years, moons and conditions, found by java.time. */
public final class RuleEdgeTest {
    private static final Check CHECK = new Check();
    // a common and a leap year beginning on each weekday, the centuries, and both ends
    private static final int[] YEARS = {0, 1, 2, 3, 4, 5, 6, 7, 8, 12, 16, 20, 24, 28, 99, 100, 200, 300, 396, 399};
    private static final String[] EDGES = {"0101", "0102", "0131", "0201", "0228", "0229", "0301", "0630", "0701",
        "1130", "1201", "1230", "1231"};

    public static void main(String[] args) {
        dates();
        nthWeekdays();
        lastWeekdays();
        weekdaysOfAllYears();
        leapYears();
        weekdaySteps();
        days();
        moons();
        aheadOfDates();
        onFeasts();
        fromNone();
        CHECK.finish("RuleEdgeTest");
    }

    private static void dates() {
        for (int month = 1; month <= 12; month++) {
            for (int day = 1; day <= LocalDate.of(0, month, 1).lengthOfMonth(); day++) {
                AlmanacLoom loom = with("D" + two(month) + two(day));
                for (int year : YEARS) {
                    boolean isThere = day <= LocalDate.of(year, month, 1).lengthOfMonth();
                    due(loom, year, isThere ? LocalDate.of(year, month, day).getDayOfYear() - 1 : -1);
                }
            }
        }
    }

    private static void nthWeekdays() {
        for (int month = 1; month <= 12; month++) {
            for (int weekday = 0; weekday <= 6; weekday++) {
                for (int n = 1; n <= 5; n++) {
                    AlmanacLoom loom = with("N" + n + weekday + two(month));
                    for (int year : YEARS) {
                        due(loom, year, nthDay(year, month, weekday, n));
                    }
                }
            }
        }
    }

    private static int nthDay(int year, int month, int weekday, int n) {
        int met = 0;
        LocalDate date = LocalDate.of(year, month, 1);
        for (; date.getMonthValue() == month; date = date.plusDays(1)) {
            met += weekdayOf(date) == weekday ? 1 : 0;
            if (met == n) {
                return date.getDayOfYear() - 1;
            }
        }
        return -1;
    }

    private static void lastWeekdays() {
        for (int month = 1; month <= 12; month++) {
            for (int weekday = 0; weekday <= 6; weekday++) {
                AlmanacLoom loom = with("L" + weekday + two(month));
                for (int year : YEARS) {
                    int fifth = nthDay(year, month, weekday, 5);
                    due(loom, year, fifth >= 0 ? fifth : nthDay(year, month, weekday, 4));
                }
            }
        }
    }

    private static void weekdaysOfAllYears() {
        AlmanacLoom loom = null;
        for (int year = 0; year <= 399; year++) {
            if (year % 100 == 0) {
                loom = with("N1001");
                Check.add(loom, "L612", 1, true);
            }
            CHECK.same("first Sunday of " + year, loom.bent(0, year), nthDay(year, 1, 0, 1));
            int fifth = nthDay(year, 12, 6, 5);
            CHECK.same("last Saturday of " + year, loom.bent(1, year), fifth >= 0 ? fifth : nthDay(year, 12, 6, 4));
        }
    }

    private static void leapYears() {
        AlmanacLoom loom = null;
        for (int year = 0; year <= 399; year++) {
            if (year % 100 == 0) {
                loom = with("D0101?Y{+1}{+2}");
            }
            due(loom, year, LocalDate.of(year, 1, 1).isLeapYear() ? 1 : 2);
        }
    }

    private static void weekdaySteps() {
        for (int weekday = 0; weekday <= 6; weekday++) {
            for (int away = 0; away <= 7; away++) {
                for (char step : "><][".toCharArray()) {
                    weekdayStep(step, weekday, "D0101+" + away, away, false);
                    weekdayStep(step, weekday, "D1231-" + away, away, true);
                }
            }
        }
    }

    private static void weekdayStep(char step, int weekday, String start, int away, boolean isFromEnd) {
        AlmanacLoom loom = with(start + step + weekday);
        for (int year : YEARS) {
            LocalDate from = isFromEnd ? LocalDate.of(year, 12, 31).minusDays(away) : LocalDate.of(year, 1, 1).plusDays(away);
            int direction = step == '>' || step == ']' ? 1 : -1;
            LocalDate date = step == ']' || step == '[' ? from : from.plusDays(direction);
            while (weekdayOf(date) != weekday) {
                date = date.plusDays(direction);
            }
            due(loom, year, date.getYear() == year ? date.getDayOfYear() - 1 : -1);
        }
    }

    private static void days() {
        bent("D0101+364", 1, 364);
        bent("D0101+365", 1, -1);
        bent("D0101+365", 4, 365);
        bent("D0101+366", 4, -1);
        bent("D0101+366", 1, -1);
        bent("D1231-364", 1, 0);
        bent("D1231-365", 1, -1);
        bent("D1231-365", 4, 0);
        bent("D1231-366", 4, -1);
        bent("D1231+0", 1, 364);
        bent("D1231+1", 1, -1);
        bent("D1231+1-1", 1, 364);
        bent("D0101-0", 1, 0);
        bent("D0101-1+1", 1, 0);
        bent("D0101+366-366+366-366+366-366+366-366", 1, 0);
        bent("D0101-366-366-366-366-366-366-366-366", 1, -1);
        bent("D0701+366+366+366+366+366+366+366+366", 1, -1);
    }

    // the ages are swept by CalendarTest
    private static void moons() {
        for (int age = 0; age <= 14; age += 14) {
            for (String month : new String[] {"01", "12"}) {
                for (int day = 1; day <= 31; day++) {
                    String rule = "D" + month + two(day) + (age == 0 ? "Q" : "O");
                    moon(rule, month.equals("12"), day, age);
                }
            }
        }
    }

    private static void moon(String rule, boolean isDecember, int day, int age) {
        for (int year : new int[] {0, 4, 5, 398, 399}) {
            AlmanacLoom loom = with(rule);
            int length = LocalDate.of(year, 1, 1).lengthOfYear();
            for (int table = 0; table <= 1; table++) {
                loom.table(table);
                int wanted = day - 1 + (isDecember ? length - 31 : 0);
                while (wanted < length && loom.age(loom.begin(year) + wanted, table) != age) {
                    wanted++;
                }
                due(loom, year, wanted < length ? wanted : -1);
            }
        }
    }

    private static void aheadOfDates() {
        for (String date : EDGES) {
            for (String other : EDGES) {
                // taken away, if it is ahead of the other date
                AlmanacLoom loom = with("D" + date + "?E" + other + "{X}");
                for (int year : new int[] {0, 1, 100}) {
                    int month = Integer.parseInt(date.substring(0, 2));
                    int day = Integer.parseInt(date.substring(2));
                    boolean isThere = day <= LocalDate.of(year, month, 1).lengthOfMonth();
                    boolean stays = isThere && date.compareTo(other) >= 0;
                    due(loom, year, stays ? LocalDate.of(year, month, day).getDayOfYear() - 1 : -1);
                }
            }
        }
    }

    private static void onFeasts() {
        for (int days = -1; days <= 1; days++) {
            AlmanacLoom loom = with("D0701");
            Check.add(loom, "D0701?A00{+1}{+5}", 1, true);
            loom.dispense(0, 10, days);
            loom.dispense(0, 20, 99);
            CHECK.same("bent by " + days, loom.bent(1, 10), 181 + (days == 0 ? 1 : 5));
            CHECK.same("not bent", loom.bent(1, 9), 181 + 1);
            CHECK.same("taken away", loom.bent(1, 20), 182 + 5);
            CHECK.same("taken away, by days", loom.dayByDays(1, 20), 182 + 5);
        }
        // the bent day counts, not the place
        AlmanacLoom loom = with("D0701");
        Check.add(loom, "D0701", 9, true);
        Check.add(loom, "D0701?A00{+10}", 1, true);
        Check.add(loom, "D0702?A00{+10}", 1, true);
        CHECK.same("the feast is placed elsewhere", loom.day(0, 1), 182);
        CHECK.same("on its bent day", loom.bent(2, 1), 191);
        CHECK.same("on its place", loom.bent(3, 1), 182);
        Check.add(loom, "F00+1", 1, true);
        CHECK.same("from its bent day", loom.bent(4, 1), 182);
        // none is not the same day as none; the moons would cost
        AlmanacLoom none = with("D0101X");
        Check.add(none, "D0101X?A00{OOO}", 1, true);
        CHECK.same("none is on no feast", none.cost(1, 1), 1 + 1 + 2 + 1);
    }

    private static void fromNone() {
        for (String steps : new String[] {"+1", "-1", "+0", ">0", "<0", "]0", "[0", "O", "Q", "X", "?Y{+1}{+1}"}) {
            bent("D0229" + steps, 1, -1);
            bent("N5002" + steps, 1, -1);
            bent("D1231>0" + steps, 1, -1);
            bent("D0101<0" + steps, 1, -1);
        }
        // the costs tell which steps are met
        for (String condition : new String[] {"W0", "W6", "E1231", "E0101"}) {
            for (String start : new String[] {"D0229", "D0229-1", "D0229+1"}) {
                AlmanacLoom loom = with(start + "?" + condition + "{OO}{O}");
                int cost = loom.cost(0, 1);
                CHECK.same(start + condition, cost, (start.length() > 5 ? 2 : 1) + 1 + 1 + 6);
            }
        }
        CHECK.same("not on a weekday", with("D0229?!W0{OO}{O}").cost(0, 1), 1 + 1 + 1 + 1 + 12 + 1);
        CHECK.same("not ahead", with("D0229?!E1231{OO}{O}").cost(0, 1), 1 + 1 + 1 + 1 + 12 + 1);
        CHECK.same("a leap year holds on", with("D0101-1?Y{OO}{O}").cost(0, 4), 1 + 1 + 1 + 1 + 12 + 1);
        CHECK.same("one of both", with("D0229?(W0|!W0){OO}{O}").cost(0, 1), 1 + 1 + 1 + 1 + 1 + 1 + 12 + 1);
        CHECK.same("both of them", with("D0229?(!W0&!E1231){OO}{O}").cost(0, 1), 1 + 2 + 1 + 2 + 1 + 12 + 1);
    }

    private static AlmanacLoom with(String rule) {
        AlmanacLoom loom = new AlmanacLoom();
        Check.add(loom, rule, 5, true);
        return loom;
    }

    private static void bent(String rule, int year, int due) {
        AlmanacLoom loom = with(rule);
        CHECK.same("bent of " + rule + " in " + year, loom.bent(0, year), due);
        CHECK.same("dayByDays of " + rule + " in " + year, loom.dayByDays(0, year), due);
    }

    /** The day of the only feast, which nothing moves. */
    private static void due(AlmanacLoom loom, int year, int due) {
        CHECK.same("bent in " + year, loom.bent(0, year), due);
        CHECK.same("day in " + year, loom.day(0, year), due);
        CHECK.same("dayByDays in " + year, loom.dayByDays(0, year), due);
    }

    private static int weekdayOf(LocalDate date) {
        return date.getDayOfWeek().getValue() % 7;
    }

    private static String two(int number) {
        return number < 10 ? "0" + number : "" + number;
    }
}
