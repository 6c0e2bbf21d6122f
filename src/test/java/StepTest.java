/** Promises 21 to 24: steps, step, cost, yearCost. */
public final class StepTest {
    private static final Check CHECK = new Check();

    public static void main(String[] args) {
        startsAndMoves();
        days();
        branches();
        logic();
        longest();
        greatest();
        costs();
        costsOfFeasts();
        costsOfYears();
        mended();
        wrongPlaces();
        CHECK.finish("StepTest");
    }

    private static void startsAndMoves() {
        steps("D0101", 10101);
        steps("D1231", 11231);
        steps("N5612", 25612);
        steps("N1001", 21001);
        steps("L012", 30012);
        steps("L601", 30601);
        steps("D0101>0<6]1[2OQX", 10101, 60000, 70006, 80001, 90002, 100000, 110000, 120000);
    }

    private static void days() {
        steps("D0101+1", 10101, 55001);
        steps("D0101-1", 10101, 54999);
        steps("D0101+0", 10101);
        steps("D0101+1+2-3", 10101);
        steps("D0101+366+366-7", 10101, 55725);
        steps("D0101-366-366-366-366-366-366-366-366", 10101, 55000 - 8 * 366);
        steps("D0101+1O+2", 10101, 55001, 100000, 55002);
        steps("D0101+1?Y{+2}+3", 10101, 55001, 140000, 190005, 55002, 55003);
    }

    private static void branches() {
        steps("D0101?Y{}", 10101, 140000, 190003);
        steps("D0101?Y{}{}", 10101, 140000, 190004, 180004);
        steps("D0101?Y{+0}{-0}", 10101, 140000, 190004, 180004);
        steps("D0101?Y{O}", 10101, 140000, 190004, 100000);
        steps("D0101?Y{O}{QX}+1", 10101, 140000, 190005, 100000, 180007, 110000, 120000, 55001);
        steps("D0101?Y{?W0{X}}{O}", 10101, 140000, 190007, 130000, 190006, 120000, 180008, 100000);
    }

    private static void logic() {
        AlmanacLoom loom = new AlmanacLoom();
        Check.add(loom, "D0101", 0, false);
        Check.add(loom, "D0101?((A00&E1231)|!W6){}", 0, false);
        same(loom, 1, 10101, 150000, 190004, 161231, 200007, 130006, 170000, 190008);
        Check.add(loom, "F01?!(A01&!Y){X}", 0, false);
        same(loom, 2, 40001, 150001, 190005, 140000, 170000, 170000, 190008, 120000);
        Check.add(loom, "F02?!!A00{X}{X}", 0, false);
        same(loom, 3, 40002, 150000, 170000, 170000, 190007, 120000, 180008, 120000);
    }

    private static void longest() {
        AlmanacLoom loom = new AlmanacLoom();
        Check.add(loom, "D0101?" + "!".repeat(31) + "Y{}", 0, false);
        CHECK.same("steps of many nots", loom.steps(0), 34);
        CHECK.same("the last step", loom.step(0, 33), 190034);
        CHECK.same("cost of many nots", loom.cost(0, 1), 34);
        Check.add(loom, "D0101" + "OQ".repeat(17) + "X", 0, false);
        CHECK.same("steps of many moons", loom.steps(1), 36);
        CHECK.same("cost of many moons", loom.cost(1, 1), 1 + 34 * 6 + 1);
    }

    /** The most steps, the farthest days, the last place of a jump, and the dearest rule that 40 characters give. */
    private static void greatest() {
        AlmanacLoom loom = new AlmanacLoom();
        Check.add(loom, "D0101", 0, false);
        String[] rules = {"F00" + "+366".repeat(9), "F00" + "-366".repeat(9), "F00?Y{" + "O".repeat(33) + "}",
            "F00" + "O".repeat(37)};
        int[] steps = {2, 2, 36, 38};
        int[] last = {50000 + 5000 + 9 * 366, 50000 + 5000 - 9 * 366, 100000, 100000};
        int[] leapCosts = {3, 3, 2 + 1 + 1 + 33 * 6, 2 + 37 * 6};
        for (int i = 0; i < rules.length; i++) {
            int number = Check.add(loom, rules[i], 0, false);
            CHECK.same("steps of " + rules[i], loom.steps(number), steps[i]);
            CHECK.same("the last step of " + rules[i], loom.step(number, steps[i] - 1), last[i]);
            CHECK.same("cost of " + rules[i], loom.cost(number, 4), leapCosts[i]);
            CHECK.same("year's cost up to " + rules[i], loom.yearCost(4), loom.cost(1, 4) + 2
                + (i > 0 ? leapCosts[1] : 0) + (i > 1 ? leapCosts[2] : 0) + (i > 2 ? leapCosts[3] : 0));
        }
        CHECK.same("a jump over all steps", loom.step(3, 2), 190036);
        CHECK.same("a jump over all steps is cheap", loom.cost(3, 1), 4);
        CHECK.same("the moon stays where it is", loom.bent(4, 4), loom.bent(3, 4));
        Check.write(loom, rules[3]);
        CHECK.same("steps of a mended rule", loom.mend(1), 38);
        CHECK.same("steps of it", loom.steps(1), 38);
        CHECK.same("the last place", loom.step(1, 37), 100000);
        CHECK.index("no such place", () -> loom.step(1, 38));
    }

    private static void costs() {
        cost("D0101", 1, 1);
        cost("N1101", 1, 3);
        cost("L101", 1, 3);
        cost("D0101+1", 1, 2);
        cost("D0101>1", 1, 3);
        cost("D0115<1", 1, 3);
        cost("D0101]1", 1, 3);
        cost("D0115[1", 1, 3);
        cost("D0101O", 1, 7);
        cost("D0101Q", 1, 7);
        cost("D0101X", 1, 2);
        cost("D0101XO", 1, 8);
        cost("D0101?W0{}", 1, 3);
        cost("D0101?Y{}", 1, 3);
        cost("D0101?E0101{}", 1, 3);
        cost("D0101?!Y{}", 1, 4);
        cost("D0101?Y{O}{Q>0}", 0, 1 + 1 + 1 + 6 + 1);
        cost("D0101?Y{O}{Q>0}", 1, 1 + 1 + 1 + 6 + 2);
        cost("D0101?(Y&W0){}", 0, 1 + 1 + 1 + 1 + 1);
        cost("D0101?(Y&W0){}", 1, 1 + 1 + 1 + 1);
        cost("D0101?(Y|W0){}", 0, 1 + 1 + 1 + 1);
        cost("D0101?(Y|W0){}", 1, 1 + 1 + 1 + 1 + 1);
    }

    private static void costsOfFeasts() {
        AlmanacLoom loom = new AlmanacLoom();
        CHECK.same("yearCost of none", loom.yearCost(399), 1);
        Check.add(loom, "D0101O", 0, false);
        Check.add(loom, "F00", 0, false);
        Check.add(loom, "F01?A00{}", 0, false);
        CHECK.same("cost of F", loom.cost(1, 1), 2);
        CHECK.same("cost of A", loom.cost(2, 1), 5);
        CHECK.same("yearCost", loom.yearCost(1), 7 + 2 + 5 + 1);
        Check.add(loom, "D0106Q?E0110{O}", 0, false);
        CHECK.same("cost by the true table", loom.cost(3, 0), 1 + 6 + 1 + 1 + 6);
        loom.dispense(0, 0, 99);
        CHECK.same("a dispensation costs nothing", loom.cost(0, 0), 7);
        Check.write(loom, "D0107Q?E0110{O}");
        loom.mend(3);
        CHECK.same("cost behind the moon", loom.cost(3, 0), 1 + 6 + 1 + 1);
        Check.write(loom, "D0106Q?E0107{}{XX}");
        loom.mend(3);
        CHECK.same("a new moon on the day 5", loom.cost(3, 0), 1 + 6 + 1 + 1 + 1);
        loom.table(AlmanacLoom.BOOK_MOON);
        CHECK.same("a new moon on the day 6", loom.cost(3, 0), 1 + 6 + 1 + 1 + 2);
        CHECK.same("yearCost by the book", loom.yearCost(0), 7 + 2 + 5 + 11 + 1);
    }

    private static void costsOfYears() {
        AlmanacLoom loom = null;
        for (int year = 0; year <= 399; year++) {
            if (year % 200 == 0) {
                loom = new AlmanacLoom();
                Check.add(loom, "D0101?Y{O}", 0, false);
            }
            int due = loom.date(year, 365) == AlmanacLoom.NONE ? 3 : 9;
            CHECK.same("yearCost " + year, loom.yearCost(year), due + 1);
        }
        AlmanacLoom full = new AlmanacLoom();
        for (int feast = 0; feast < 20; feast++) {
            CHECK.same("yearCost of " + feast, full.yearCost(399), 4 * feast + 1);
            Check.add(full, "L012+1", 0, false);
        }
        CHECK.same("yearCost of 20", full.yearCost(0), 81);
        CHECK.same("cost of the last one", full.cost(19, 399), 4);
    }

    private static void mended() {
        AlmanacLoom loom = new AlmanacLoom();
        Check.add(loom, "D0101OQOQ", 0, false);
        Check.write(loom, "L101");
        CHECK.same("mend", loom.mend(0), 1);
        same(loom, 0, 30101);
        CHECK.same("cost", loom.cost(0, 5), 3);
    }

    private static void wrongPlaces() {
        AlmanacLoom loom = new AlmanacLoom();
        CHECK.index("steps 0 of no feasts", () -> loom.steps(0));
        CHECK.index("step 0 of no feasts", () -> loom.step(0, 0));
        Check.add(loom, "D0101+1", 0, false);
        CHECK.index("steps -1", () -> loom.steps(-1));
        CHECK.index("steps 1", () -> loom.steps(1));
        CHECK.index("step of -1", () -> loom.step(-1, 0));
        CHECK.index("step of 1", () -> loom.step(1, 0));
        CHECK.index("step -1", () -> loom.step(0, -1));
        CHECK.index("step 2", () -> loom.step(0, 2));
        CHECK.index("step 41", () -> loom.step(0, 41));
        CHECK.index("cost -1", () -> loom.cost(-1, 400));
        CHECK.index("cost 1", () -> loom.cost(1, 0));
        CHECK.argument("cost in -1", () -> loom.cost(0, -1));
        CHECK.argument("cost in 400", () -> loom.cost(0, 400));
        CHECK.argument("yearCost in -1", () -> loom.yearCost(-1));
        CHECK.argument("yearCost in 400", () -> loom.yearCost(400));
    }

    // each is asked first of an object, so that none leans on what the other one found
    private static void cost(String rule, int year, int due) {
        AlmanacLoom loom = new AlmanacLoom();
        Check.add(loom, rule, 0, false);
        CHECK.same("cost of " + rule + " in " + year, loom.cost(0, year), due);
        AlmanacLoom other = new AlmanacLoom();
        Check.add(other, rule, 0, false);
        CHECK.same("yearCost of " + rule + " in " + year, other.yearCost(year), due + 1);
    }

    private static void steps(String rule, int... due) {
        AlmanacLoom loom = new AlmanacLoom();
        Check.add(loom, rule, 0, false);
        same(loom, 0, due);
    }

    private static void same(AlmanacLoom loom, int feast, int... due) {
        CHECK.same("steps of " + feast, loom.steps(feast), due.length);
        for (int place = 0; place < due.length; place++) {
            int at = place;
            String got = Check.outcome(() -> loom.step(feast, at));
            CHECK.same("step " + place + " of " + due.length + ", the first one being " + due[0], got, due[place]);
        }
    }
}
