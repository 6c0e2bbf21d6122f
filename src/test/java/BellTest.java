/** Promises 28 to 32: bells, ringer, rings, silent, peals. */
public final class BellTest {
    private static final Check CHECK = new Check();

    public static void main(String[] args) {
        bells();
        ringers();
        bellsByRank();
        fewestBells();
        rests();
        parishes();
        placedNotBent();
        lastDay();
        midnight();
        wrongCalls();
        CHECK.finish("BellTest");
    }

    private static void bells() {
        AlmanacLoom loom = new AlmanacLoom();
        CHECK.index("bells of -1", () -> loom.bells(-1, 7));
        CHECK.index("bells of 6", () -> loom.bells(6, 0));
        CHECK.argument("bells -1", () -> loom.bells(0, -1));
        CHECK.argument("bells 7", () -> loom.bells(0, 7));
        for (int parish = 0; parish < 6; parish++) {
            CHECK.same("bells at first", loom.bells(parish, 6 - parish), 0);
        }
        for (int parish = 0; parish < 6; parish++) {
            CHECK.same("bells then", loom.bells(parish, 0), 6 - parish);
        }
    }

    private static void ringers() {
        AlmanacLoom loom = new AlmanacLoom();
        CHECK.index("ringer of -1", () -> loom.ringer(-1, 7));
        CHECK.index("ringer of 6", () -> loom.ringer(6, 0));
        CHECK.argument("rest -1", () -> loom.ringer(0, -1));
        CHECK.argument("rest 7", () -> loom.ringer(0, 7));
        for (int number = 0; number < 24; number++) {
            CHECK.same("ringer", loom.ringer(number % 6, number % 7), number);
        }
        CHECK.state("ringer 24", () -> loom.ringer(0, 0));
        CHECK.argument("a wrong rest at 24", () -> loom.ringer(0, 7));
        CHECK.index("a wrong parish at 24", () -> loom.ringer(6, 0));
    }

    private static void bellsByRank() {
        AlmanacLoom loom = new AlmanacLoom();
        Check.add(loom, "D0301", 0, false);
        Check.add(loom, "D0401", 2, false);
        Check.add(loom, "D0501", 9, false);
        Check.add(loom, "D0601X", 9, false);
        loom.bells(0, 3);
        for (int i = 0; i < 3; i++) {
            loom.ringer(0, 0);
        }
        rings(loom, 0, 0, -1, -1, -1, -1);
        rings(loom, 1, 0, 0, 1, -1, -1);
        rings(loom, 2, 0, 2, 0, 1, -1, -1, -1);
        rings(loom, 3, 0, -1, -1, -1);
        CHECK.same("silent", loom.silent(1), 0);
        CHECK.same("peals 0", loom.peals(0, 1), 2);
        CHECK.same("peals 1", loom.peals(1, 1), 2);
        CHECK.same("peals 2", loom.peals(2, 1), 1);
        loom.bells(0, 6);
        CHECK.same("silent with more bells", loom.silent(1), 3);
        rings(loom, 2, 0, 2, 0, 1, -1, -1, -1);
    }

    private static void fewestBells() {
        AlmanacLoom loom = new AlmanacLoom();
        for (int i = 1; i <= 5; i++) {
            Check.add(loom, "D0" + i + "01", i == 1 ? 1 : 2, false);
        }
        loom.bells(3, 2);
        for (int i = 0; i < 3; i++) {
            loom.ringer(3, 0);
        }
        rings(loom, 0, 3, 0, -1);
        rings(loom, 1, 3, 1, 2);
        rings(loom, 2, 3, 0, 1);
        rings(loom, 3, 3, 2, 0);
        rings(loom, 4, 3, 1, 2);
        CHECK.same("each year anew", loom.peals(0, 2), 3);
        CHECK.same("each year anew", loom.peals(0, 1), 3);
    }

    private static void rests() {
        AlmanacLoom loom = new AlmanacLoom();
        Check.add(loom, "D0301", 1, false);
        Check.add(loom, "D0302", 1, false);
        Check.add(loom, "D0304", 1, false);
        Check.add(loom, "D0305", 1, false);
        loom.bells(0, 1);
        loom.ringer(0, 2);
        rings(loom, 0, 0, 0);
        rings(loom, 1, 0, -1);
        rings(loom, 2, 0, 0);
        rings(loom, 3, 0, -1);
        CHECK.same("silent", loom.silent(1), 2);
        loom.ringer(0, 0);
        rings(loom, 1, 0, 1);
        rings(loom, 2, 0, 0);
        rings(loom, 3, 0, 1);
        CHECK.same("silent no more", loom.silent(1), 0);
    }

    private static void parishes() {
        AlmanacLoom loom = new AlmanacLoom();
        Check.add(loom, "D0301", 6, false);
        loom.bells(0, 1);
        loom.bells(5, 6);
        loom.ringer(5, 0);
        loom.ringer(0, 0);
        loom.ringer(5, 0);
        loom.ringer(4, 0);
        rings(loom, 0, 0, 1, -1);
        rings(loom, 0, 4, -1, -1);
        rings(loom, 0, 5, 0, 2, -1, -1, -1, -1);
        CHECK.same("silent", loom.silent(1), 4);
        CHECK.same("peals of a parish without bells", loom.peals(3, 1), 0);
        CHECK.same("one bell on a day", loom.peals(0, 1), 1);
    }

    private static void placedNotBent() {
        AlmanacLoom loom = new AlmanacLoom();
        Check.add(loom, "D0301", 1, true);
        Check.add(loom, "D0301", 2, true);
        Check.add(loom, "D0301", 1, false);
        loom.bells(0, 1);
        loom.ringer(0, 0);
        loom.ringer(0, 0);
        rings(loom, 1, 0, 0);
        rings(loom, 0, 0, 1);
        rings(loom, 2, 0, -1);
        CHECK.same("silent", loom.silent(1), 0);
        loom.dispense(1, 1, 1);
        rings(loom, 0, 0, 0);
        rings(loom, 1, 0, 1);
    }

    private static void lastDay() {
        AlmanacLoom loom = new AlmanacLoom();
        Check.add(loom, "D1231", 1, false);
        Check.add(loom, "D0101", 2, false);
        loom.bells(2, 2);
        loom.ringer(2, 6);
        for (int year = 0; year <= 1; year++) {
            CHECK.same("rings on the last day", loom.rings(0, year, 2, 0), 0);
            CHECK.same("rings on the first day", loom.rings(1, year, 2, 0), 0);
            CHECK.same("is alone on the first day", loom.rings(1, year, 2, 1), -1);
            CHECK.same("silent", loom.silent(year), 1);
            CHECK.same("peals", loom.peals(0, year), 2);
        }
    }

    private static void midnight() {
        AlmanacLoom loom = new AlmanacLoom();
        Check.add(loom, "D0106Q", 1, true);
        Check.add(loom, "D0107", 1, true);
        Check.add(loom, "D0108", 1, true);
        loom.bells(0, 1);
        loom.ringer(0, 0);
        CHECK.same("isMidnight", loom.isMidnight(0, 0), true);
        CHECK.same("rings", loom.rings(0, 0, 0, 0), 0);
        CHECK.same("the day behind is lost", loom.rings(1, 0, 0, 0), -1);
        CHECK.same("the next one is not", loom.rings(2, 0, 0, 0), 0);
        CHECK.same("silent", loom.silent(0), 1);
        CHECK.same("peals", loom.peals(0, 0), 2);
        loom.table(AlmanacLoom.BOOK_MOON);
        CHECK.same("by the book it is on the day 6", loom.day(0, 0), 6);
        CHECK.same("rings by the book", loom.rings(0, 0, 0, 0), 0);
        CHECK.same("the other one moved, and the day behind is lost", loom.day(1, 0), 7);
        CHECK.same("it is silent", loom.rings(1, 0, 0, 0), -1);
        CHECK.same("the next one is not, by the book", loom.rings(2, 0, 0, 0), 0);
    }

    private static void wrongCalls() {
        AlmanacLoom loom = new AlmanacLoom();
        Check.add(loom, "D0301", 1, true);
        CHECK.index("rings of -1", () -> loom.rings(-1, 400, 0, 6));
        CHECK.index("rings of 1", () -> loom.rings(1, 0, 0, 0));
        CHECK.index("rings in parish -1", () -> loom.rings(0, 400, -1, 6));
        CHECK.index("rings in parish 6", () -> loom.rings(0, 0, 6, 0));
        CHECK.argument("rings in -1", () -> loom.rings(0, -1, 0, 0));
        CHECK.argument("rings in 400", () -> loom.rings(0, 400, 0, 0));
        CHECK.argument("rings with -1", () -> loom.rings(0, 0, 0, -1));
        CHECK.argument("rings with 6", () -> loom.rings(0, 0, 0, 6));
        CHECK.same("rings with 5", loom.rings(0, 0, 5, 5), -1);
        CHECK.argument("silent in -1", () -> loom.silent(-1));
        CHECK.argument("silent in 400", () -> loom.silent(400));
        CHECK.index("peals of none", () -> loom.peals(0, 400));
        loom.ringer(0, 0);
        CHECK.index("peals of -1", () -> loom.peals(-1, 0));
        CHECK.index("peals of 1", () -> loom.peals(1, 0));
        CHECK.argument("peals in -1", () -> loom.peals(0, -1));
        CHECK.argument("peals in 400", () -> loom.peals(0, 400));
        CHECK.same("peals", loom.peals(0, 399), 0);
    }

    private static void rings(AlmanacLoom loom, int feast, int parish, int... due) {
        for (int bell = 0; bell < due.length; bell++) {
            String call = "rings " + feast + " in parish " + parish + " with " + bell;
            CHECK.same(call, loom.rings(feast, 1, parish, bell), due[bell]);
        }
    }
}
