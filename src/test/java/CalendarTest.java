import java.time.LocalDate;
import java.time.temporal.ChronoUnit;

/** Promises 1 to 5: a new object, begin, date, age, table. */
public final class CalendarTest {
    private static final Check CHECK = new Check();

    public static void main(String[] args) {
        newObject();
        begin();
        date();
        age();
        ageByCounting();
        table();
        CHECK.finish("CalendarTest");
    }

    private static void newObject() {
        AlmanacLoom loom = new AlmanacLoom();
        CHECK.same("feasts", loom.feasts(), 0);
        CHECK.same("wipe", loom.wipe(), 0);
        CHECK.same("fault", loom.fault(), 0);
        CHECK.same("spent", loom.spent(), 0);
        CHECK.same("yearCost", loom.yearCost(0), 1);
        CHECK.same("silent", loom.silent(0), 0);
        CHECK.same("bells", loom.bells(0, 1), 0);
        CHECK.same("ringer", loom.ringer(0, 0), 0);
        CHECK.same("table", loom.table(AlmanacLoom.TRUE_MOON), AlmanacLoom.TRUE_MOON);
        CHECK.same("NONE", AlmanacLoom.NONE, -1);
        CHECK.same("PAUSED", AlmanacLoom.PAUSED, -2);
        CHECK.same("BOOK_MOON", AlmanacLoom.BOOK_MOON, 1);
    }

    // java.time's calendar has the same leap years, the year 0 among them
    private static void begin() {
        AlmanacLoom loom = new AlmanacLoom();
        LocalDate start = LocalDate.of(0, 1, 1);
        for (int year = 0; year <= 399; year++) {
            CHECK.same("begin " + year, loom.begin(year), ChronoUnit.DAYS.between(start, LocalDate.of(year, 1, 1)));
        }
        CHECK.argument("begin -1", () -> loom.begin(-1));
        CHECK.argument("begin 400", () -> loom.begin(400));
        CHECK.argument("begin least", () -> loom.begin(Integer.MIN_VALUE));
    }

    private static void date() {
        for (int year : new int[] {0, 1, 4, 99, 100, 200, 300, 396, 399}) {
            AlmanacLoom loom = new AlmanacLoom();
            for (int day = 0; day <= 365; day++) {
                LocalDate due = LocalDate.of(year, 1, 1).plusDays(day);
                int number = due.getYear() == year ? 100 * due.getMonthValue() + due.getDayOfMonth() : -1;
                CHECK.same("date " + year + " " + day, loom.date(year, day), number);
            }
        }
        AlmanacLoom loom = new AlmanacLoom();
        CHECK.argument("date of year -1", () -> loom.date(-1, 0));
        CHECK.argument("date of year 400", () -> loom.date(400, 0));
        CHECK.argument("date of day -1", () -> loom.date(0, -1));
        CHECK.argument("date of day 366", () -> loom.date(0, 366));
    }

    private static void age() {
        AlmanacLoom loom = new AlmanacLoom();
        CHECK.same("age ahead of moon 0", loom.age(4, 0), 29);
        CHECK.same("age on moon 0", loom.age(5, 0), 0);
        CHECK.same("age ahead of moon 0 by book", loom.age(5, 1), 29);
        CHECK.same("age on moon 0 by book", loom.age(6, 1), 0);
        CHECK.same("age on the last day", loom.age(146096, 0), 0);
        CHECK.argument("age of -1", () -> loom.age(-1, 0));
        CHECK.argument("age of 146097", () -> loom.age(146097, 0));
        CHECK.argument("age by -1", () -> loom.age(0, -1));
        CHECK.argument("age by 2", () -> loom.age(0, 2));
    }

    private static void ageByCounting() {
        for (int table = 0; table <= 1; table++) {
            boolean[] isNew = new boolean[146200];
            for (int k = -2; k < 5000; k++) {
                double turn = table == 0 ? 945.0 * k / 32 : 6940.0 * k / 235;
                int day = (int) Math.floor(turn) + 5 + table;
                if (day >= 0 && day < isNew.length) {
                    isNew[day] = true;
                }
            }
            int age = table == 0 ? 24 : 23;
            AlmanacLoom loom = new AlmanacLoom();
            for (int day = 0; day <= 146096; day++) {
                // an object's answers behind its 512th call are free
                loom = day % 512 == 0 ? new AlmanacLoom() : loom;
                age = isNew[day] ? 0 : age + 1;
                CHECK.same("age " + day + " " + table, loom.age(day, table), age);
            }
        }
    }

    private static void table() {
        AlmanacLoom loom = new AlmanacLoom();
        Check.add(loom, "D0101Q", 0, false);
        CHECK.same("first new moon", loom.bent(0, 0), 5);
        CHECK.same("table", loom.table(AlmanacLoom.BOOK_MOON), AlmanacLoom.TRUE_MOON);
        CHECK.same("first new moon by book", loom.bent(0, 0), 6);
        CHECK.same("the same table once more", loom.table(AlmanacLoom.BOOK_MOON), AlmanacLoom.BOOK_MOON);
        CHECK.argument("table 2", () -> loom.table(2));
        CHECK.argument("table -1", () -> loom.table(-1));
        CHECK.same("table again", loom.table(AlmanacLoom.TRUE_MOON), AlmanacLoom.BOOK_MOON);
        CHECK.same("first new moon again", loom.bent(0, 0), 5);
    }
}
