/** Promises 10 to 20: feast, mend, rank, dispense, takeBack, feasts, bent, day, dayByDays, clashes, isMidnight. */
public final class FeastTest {
    private static final Check CHECK = new Check();

    public static void main(String[] args) {
        feast();
        fullAlmanac();
        mend();
        rank();
        dispense();
        manyDispensations();
        takeBack();
        starts();
        steps();
        noDay();
        yearEnds();
        conditions();
        placing();
        farthestMove();
        sameByDays();
        clashes();
        midnight();
        wrongFeastsAndYears();
        CHECK.finish("FeastTest");
    }

    private static void feast() {
        AlmanacLoom loom = new AlmanacLoom();
        CHECK.argument("feast without a rule", () -> loom.feast(0, true));
        Check.write(loom, "F00");
        CHECK.argument("feast of rank -1", () -> loom.feast(-1, true));
        CHECK.argument("feast of rank 10", () -> loom.feast(10, true));
        CHECK.state("feast that names itself", () -> loom.feast(0, true));
        CHECK.same("the text is still there", loom.wipe(), 3);
        CHECK.same("feasts", loom.feasts(), 0);
        CHECK.same("feast 0", Check.add(loom, "D0301", 0, false), 0);
        CHECK.same("the text is empty", loom.wipe(), 0);
        CHECK.same("feast 1", Check.add(loom, "F00", 9, true), 1);
        Check.write(loom, "D0301?Y{?A02{X}}");
        CHECK.state("feast that names another one in a branch", () -> loom.feast(0, true));
        CHECK.same("feasts then", loom.feasts(), 2);
    }

    private static void fullAlmanac() {
        AlmanacLoom loom = new AlmanacLoom();
        for (int i = 0; i < 20; i++) {
            CHECK.same("feast", Check.add(loom, i == 0 ? "D0101" : "F" + (i + 99 + "").substring(1) + "+1", i % 10, true), i);
        }
        CHECK.same("the last of a chain", loom.bent(19, 7), 19);
        CHECK.argument("feast 20 without a rule", () -> loom.feast(0, true));
        Check.write(loom, "D0101");
        CHECK.argument("feast 20 of rank 10", () -> loom.feast(10, true));
        CHECK.state("feast 20", () -> loom.feast(0, true));
        CHECK.same("feasts", loom.feasts(), 20);
    }

    private static void mend() {
        AlmanacLoom loom = new AlmanacLoom();
        Check.add(loom, "D0101", 3, true);
        Check.add(loom, "F00+1", 3, true);
        Check.add(loom, "F01+1", 3, true);
        Check.write(loom, "D0201+3");
        CHECK.index("mend -1", () -> loom.mend(-1));
        CHECK.index("mend 3", () -> loom.mend(3));
        CHECK.same("mend", loom.mend(0), 2);
        CHECK.same("the text is empty", loom.wipe(), 0);
        CHECK.same("what needs it follows", loom.bent(2, 5), 31 + 5);
        CHECK.argument("mend without a rule", () -> loom.mend(0));
        Check.write(loom, "F02");
        CHECK.state("mend into a ring", () -> loom.mend(0));
        CHECK.state("mend by itself", () -> loom.mend(2));
        CHECK.same("nothing changed", loom.bent(2, 5), 31 + 5);
        CHECK.same("the text is still there", loom.wipe(), 3);
        Check.write(loom, "D0101?!(Y&A01){X}");
        CHECK.state("mend into a ring by a condition", () -> loom.mend(0));
        loom.wipe();
        Check.write(loom, "F03");
        CHECK.state("mend with a feast that there is not", () -> loom.mend(0));
        loom.wipe();
        Check.add(loom, "D0501", 3, true);
        Check.write(loom, "F03+1");
        CHECK.same("mend with a later feast", loom.mend(0), 2);
        CHECK.same("all follow the later feast", loom.bent(2, 5), 31 + 28 + 31 + 30 + 3);
        CHECK.same("all follow it by days", loom.dayByDays(2, 5), 31 + 28 + 31 + 30 + 3);
        Check.write(loom, "F00");
        CHECK.state("the ring is longer then", () -> loom.mend(3));
    }

    private static void rank() {
        AlmanacLoom loom = new AlmanacLoom();
        Check.add(loom, "D0301", 2, true);
        Check.add(loom, "D0301", 5, true);
        CHECK.index("rank -1", () -> loom.rank(-1, 99, true));
        CHECK.index("rank 2", () -> loom.rank(2, 0, true));
        CHECK.argument("rank of -1", () -> loom.rank(0, -1, true));
        CHECK.argument("rank of 10", () -> loom.rank(0, 10, true));
        CHECK.same("the higher one stays", loom.day(1, 1), 59);
        CHECK.same("rank", loom.rank(0, 9, true), 2);
        CHECK.same("the other one is higher then", loom.day(1, 1), 60);
        CHECK.same("rank", loom.rank(1, 5, false), 5);
        CHECK.same("it moves no more", loom.day(1, 1), -1);
        CHECK.same("rank", loom.rank(0, 0, false), 9);
        CHECK.same("it is higher again", loom.day(1, 1), 59);
    }

    private static void dispense() {
        AlmanacLoom loom = new AlmanacLoom();
        Check.add(loom, "D0110", 2, true);
        Check.add(loom, "F00+1", 2, true);
        CHECK.index("dispense -1", () -> loom.dispense(-1, 400, 31));
        CHECK.index("dispense 2", () -> loom.dispense(2, 0, 0));
        CHECK.argument("dispense in -1", () -> loom.dispense(0, -1, 0));
        CHECK.argument("dispense in 400", () -> loom.dispense(0, 400, 0));
        CHECK.argument("dispense by 31", () -> loom.dispense(0, 5, 31));
        CHECK.argument("dispense by -31", () -> loom.dispense(0, 5, -31));
        CHECK.argument("dispense by 98", () -> loom.dispense(0, 5, 98));
        CHECK.argument("dispense by 100", () -> loom.dispense(0, 5, 100));
        CHECK.same("dispense by 30", loom.dispense(0, 20, 30), 1);
        CHECK.same("bent by 30", loom.bent(0, 20), 39);
        CHECK.same("what needs it is bent", loom.bent(1, 20), 40);
        CHECK.same("the year behind is not", loom.bent(0, 21), 9);
        CHECK.state("dispense 9 behind", () -> loom.dispense(0, 29, 0));
        CHECK.state("dispense 9 ahead", () -> loom.dispense(0, 11, 0));
        CHECK.state("dispense once more", () -> loom.dispense(0, 20, 0));
        CHECK.argument("a wrong one too near", () -> loom.dispense(0, 20, 50));
        CHECK.same("dispense 10 behind", loom.dispense(0, 30, -9), 2);
        CHECK.same("bent to the first day", loom.bent(0, 30), 0);
        CHECK.same("dispense 10 ahead", loom.dispense(0, 10, -10), 3);
        CHECK.same("bent out of the year", loom.bent(0, 10), -1);
        CHECK.same("what needs it is none", loom.bent(1, 10), -1);
        CHECK.same("dispense another one", loom.dispense(1, 20, 99), 4);
        CHECK.same("taken away", loom.bent(1, 20), -1);
        CHECK.same("taken away has no place", loom.day(1, 20), -1);
        CHECK.same("taken away has no place by days", loom.dayByDays(1, 20), -1);
        CHECK.same("dispense by 0", loom.dispense(1, 0, 0), 5);
        CHECK.same("bent by 0", loom.bent(1, 0), 10);
    }

    private static void manyDispensations() {
        AlmanacLoom loom = new AlmanacLoom();
        Check.add(loom, "D1231", 2, true);
        for (int i = 0; i < 30; i++) {
            CHECK.same("dispense", loom.dispense(0, 10 * i, i == 29 ? 1 : -i), i + 1);
        }
        CHECK.state("dispense at 30", () -> loom.dispense(0, 390, 0));
        CHECK.same("bent out of the year's end", loom.bent(0, 290), -1);
        CHECK.same("take back", loom.takeBack(0, 50), -5);
        CHECK.same("dispense again", loom.dispense(0, 390, 99), 30);
        CHECK.same("bent no more", loom.bent(0, 50), 364);
        CHECK.same("bent anew", loom.bent(0, 390), -1);
        CHECK.same("the others stay", loom.bent(0, 280), 365 - 28);
        CHECK.same("the others stay too", loom.bent(0, 40), 365 - 4);
    }

    private static void takeBack() {
        AlmanacLoom loom = new AlmanacLoom();
        Check.add(loom, "D0110", 2, true);
        Check.add(loom, "D0110", 2, true);
        loom.dispense(0, 20, 99);
        loom.dispense(0, 30, -30);
        CHECK.index("takeBack -1", () -> loom.takeBack(-1, 400));
        CHECK.index("takeBack 2", () -> loom.takeBack(2, 20));
        CHECK.argument("takeBack in -1", () -> loom.takeBack(0, -1));
        CHECK.argument("takeBack in 400", () -> loom.takeBack(0, 400));
        CHECK.state("takeBack of another feast", () -> loom.takeBack(1, 20));
        CHECK.state("takeBack of another year", () -> loom.takeBack(0, 21));
        CHECK.same("takeBack", loom.takeBack(0, 20), 99);
        CHECK.state("takeBack again", () -> loom.takeBack(0, 20));
        CHECK.same("bent no more", loom.bent(0, 20), 9);
        CHECK.same("takeBack of the other one", loom.takeBack(0, 30), -30);
        CHECK.same("a near one is right then", loom.dispense(0, 25, 1), 1);
    }

    private static void starts() {
        bent("D0101", 0, 0);
        bent("D1231", 0, 365);
        bent("D1231", 1, 364);
        bent("D0229", 4, 59);
        bent("D0229", 100, -1);
        // the year 1 begins on a Monday
        bent("N1101", 1, 0);
        bent("N1001", 1, 6);
        bent("N5301", 1, 30);
        bent("N5401", 1, -1);
        bent("N4402", 1, 52);
        bent("N5402", 4, -1);
        bent("N5004", 1, 118);
        bent("N5004", 3, -1);
        bent("L301", 1, 30);
        bent("L401", 1, 24);
        bent("L112", 1, 364);
        bent("L012", 1, 363);
        bent("L602", 0, 56);
        bent("L202", 0, 59);
    }

    private static void steps() {
        bent("D0101+0", 1, 0);
        bent("D0101+364", 1, 364);
        bent("D0101+365", 1, -1);
        bent("D0101+365", 0, 365);
        bent("D0101+366-2", 1, 364);
        bent("D0101+366?Y{}-2", 1, -1);
        bent("D0101-1", 1, -1);
        bent("D0101-1+1", 1, 0);
        bent("D0101>1", 1, 7);
        bent("D0101>2", 1, 1);
        bent("D0101]1", 1, 0);
        bent("D0101]0", 1, 6);
        bent("D0115<1", 1, 7);
        bent("D0115<0", 1, 13);
        bent("D0115[1", 1, 14);
        bent("D0115[2", 1, 8);
        bent("D0101<1", 1, -1);
        bent("D0101[0", 1, -1);
        bent("D1231>1", 1, -1);
        bent("D1231]2", 1, -1);
        bent("D0106Q", 0, 5);
        bent("D0107Q", 0, 34);
        bent("D0101O", 0, 19);
        bent("D0120O", 0, 19);
        bent("D0121O", 0, 48);
        bent("D1231O", 0, -1);
        moonByAges("O", 14, 399);
        moonByAges("Q", 0, 399);
        moonByAges("O", 14, 100);
        moonByAges("Q", 0, 37);
        bent("D0101X", 0, -1);
    }

    private static void moonByAges(String step, int age, int year) {
        AlmanacLoom loom = new AlmanacLoom();
        Check.add(loom, "D0101" + step, 5, true);
        Check.add(loom, "D1101" + step, 5, true);
        for (int table = 0; table <= 1; table++) {
            loom.table(table);
            for (int feast = 0; feast <= 1; feast++) {
                int due = feast == 0 ? 0 : 304 + (loom.date(year, 365) < 0 ? 0 : 1);
                while (loom.age(loom.begin(year) + due, table) != age) {
                    due++;
                }
                CHECK.same(step + " in " + year + " by " + table, loom.bent(feast, year), due);
                CHECK.same(step + " in " + year + " by " + table + ", by days", loom.dayByDays(feast, year), due);
            }
        }
    }

    private static void noDay() {
        bent("D0101X+1", 1, -1);
        bent("D0101X>1", 1, -1);
        bent("D0102X<1", 1, -1);
        bent("D0101X]0", 1, -1);
        bent("D0101X[6", 1, -1);
        bent("D0101XO", 1, -1);
        bent("D0101XQ", 1, -1);
        bent("D0101-1+0+1?Y{}X", 1, -1);
        bent("D0101-1?Y{}+1", 1, -1);
    }

    private static void yearEnds() {
        AlmanacLoom loom = new AlmanacLoom();
        Check.add(loom, "D1231", 9, true);
        Check.add(loom, "D1231", 8, true);
        Check.add(loom, "D1230", 7, true);
        CHECK.same("no day is left", loom.day(1, 1), -1);
        CHECK.same("no day is left by days", loom.dayByDays(1, 1), -1);
        CHECK.same("a day is free", loom.day(2, 1), 363);
        CHECK.same("begin", loom.bent(0, 399), 364);
    }

    private static void conditions() {
        bent("D0101?W1{+1}", 1, 1);
        bent("D0101?W2{+1}", 1, 0);
        bent("D0101?W2{+1}{+2}", 1, 2);
        bent("D0101?Y{+1}{+2}+3", 0, 4);
        bent("D0101?Y{+1}{+2}+3", 1, 5);
        bent("D0101?!Y{+1}", 1, 1);
        bent("D0301?E0229{}{+1}", 1, 60);
        bent("D0228?E0229{+1}", 1, 59);
        bent("D0301?E0301{+1}", 1, 59);
        bent("D0301?E0302{+1}", 1, 60);
        bent("D0301?E0401{+1}", 1, 60);
        bent("D0315?E0401{+1}", 1, 74);
        bent("D0415?E0316{+1}", 1, 104);
        bent("D0101?(W1&Y){+1}", 1, 0);
        bent("D0101?(W1&!Y){+1}", 1, 1);
        bent("D0101?(W2|!Y){+1}", 1, 1);
        bent("D0101?(W2|Y){+1}", 1, 0);
        bent("D0101?(Y&W2){}{+1}", 1, 1);
        bent("D0101?!(!Y&W1){}{+1}", 1, 1);
        bent("D0101?W1{?Y{+1}{+2}}{+3}", 1, 2);
        // a place in front of the year's first day is none, and so is on no weekday and in no month
        AlmanacLoom loom = new AlmanacLoom();
        Check.add(loom, "D0101-1", 0, false);
        Check.add(loom, "D0101-1?A00{}{}?W0{}{}?E1231{}{}?!W0{X}", 0, false);
        CHECK.same("cost with none", loom.cost(1, 1), 2 + 2 + 1 + 1 + 1 + 1 + 1 + 1 + 1 + 1 + 1);
        Check.add(loom, "D0301", 0, false);
        Check.add(loom, "D0301?A02{+1}", 0, false);
        Check.add(loom, "D0302?A02{+1}", 0, false);
        CHECK.same("on that feast", loom.bent(3, 1), 60);
        CHECK.same("not on that feast", loom.bent(4, 1), 60);
        loom.dispense(2, 1, 1);
        CHECK.same("not on its bent day", loom.bent(3, 1), 59);
        CHECK.same("on its bent day", loom.bent(4, 1), 61);
    }

    private static void placing() {
        AlmanacLoom loom = new AlmanacLoom();
        Check.add(loom, "D0701", 5, true);
        Check.add(loom, "D0701", 5, true);
        Check.add(loom, "D0701", 6, false);
        Check.add(loom, "D0702", 5, false);
        Check.add(loom, "D0703", 9, false);
        Check.add(loom, "D0704", 0, true);
        due(loom, 1, 182, 184, 181, -1, 183, 185);
        CHECK.same("rank", loom.rank(1, 7, true), 5);
        due(loom, 1, 182, 181, -1, -1, 183, 184);
        CHECK.same("rank", loom.rank(3, 8, false), 5);
        due(loom, 1, 184, 181, -1, 182, 183, 185);
    }

    private static void due(AlmanacLoom loom, int year, int... days) {
        for (int feast = 0; feast < days.length; feast++) {
            CHECK.same("day " + feast, loom.day(feast, year), days[feast]);
            CHECK.same("dayByDays " + feast, loom.dayByDays(feast, year), days[feast]);
        }
    }

    private static void farthestMove() {
        AlmanacLoom loom = new AlmanacLoom();
        for (int i = 0; i < 20; i++) {
            Check.add(loom, "D0301", 9 - i / 2, true);
        }
        CHECK.same("19 days behind", loom.day(19, 1), 59 + 19);
        CHECK.same("19 days behind by days", loom.dayByDays(19, 1), 59 + 19);
        CHECK.same("clashes", loom.clashes(1), 190);
        // 20 feasts fill 20 days, so the limit of 20 days behind is met by the year's end alone
        AlmanacLoom late = new AlmanacLoom();
        for (int i = 0; i < 20; i++) {
            Check.add(late, "D1213", 9 - i / 2, true);
        }
        for (int year = 0; year <= 1; year++) {
            CHECK.same("on the year's last day", late.day(18, year), 365 - year);
            CHECK.same("on the year's last day by days", late.dayByDays(18, year), 365 - year);
            CHECK.same("behind the year's end", late.day(19, year), -1);
            CHECK.same("behind the year's end by days", late.dayByDays(19, year), -1);
        }
    }

    private static void sameByDays() {
        for (int table = 0; table <= 1; table++) {
            for (int first = table; first <= 399; first += 100) {
                AlmanacLoom loom = movables();
                loom.table(table);
                for (int year = first; year <= Math.min(first + 99, 399); year += 4) {
                    for (int feast = 0; feast <= 5; feast++) {
                        int due = loom.day(feast, year);
                        CHECK.same("dayByDays " + feast + " " + year, loom.dayByDays(feast, year), due);
                    }
                }
            }
        }
    }

    private static AlmanacLoom movables() {
        AlmanacLoom loom = new AlmanacLoom();
        Check.add(loom, "D0321O>0", 9, false);
        Check.add(loom, "F00-46", 8, true);
        Check.add(loom, "F00+39", 7, true);
        Check.add(loom, "D0325?(A00|!E0401){+7?W0{+1}{-3}}{]2}", 6, true);
        Check.add(loom, "N2304Q?!(W1&Y){-1-1}{<2[6}", 6, true);
        Check.add(loom, "L604+1>5?A02{X}", 6, false);
        return loom;
    }

    private static void clashes() {
        AlmanacLoom loom = new AlmanacLoom();
        CHECK.same("clashes of none", loom.clashes(0), 0);
        Check.add(loom, "D0301", 9, false);
        Check.add(loom, "D0301", 1, true);
        CHECK.same("clashes of two", loom.clashes(0), 1);
        Check.add(loom, "D0301", 1, true);
        CHECK.same("clashes of three", loom.clashes(0), 3);
        Check.add(loom, "D0101X", 1, true);
        Check.add(loom, "D0101X", 1, true);
        CHECK.same("none does not clash", loom.clashes(0), 3);
        Check.add(loom, "D0302", 1, true);
        CHECK.same("a place is no clash", loom.clashes(0), 3);
        loom.dispense(0, 0, 1);
        CHECK.same("a bent day is", loom.clashes(0), 2);
        CHECK.argument("clashes in -1", () -> loom.clashes(-1));
        CHECK.argument("clashes in 400", () -> loom.clashes(400));
    }

    private static void midnight() {
        AlmanacLoom loom = new AlmanacLoom();
        Check.add(loom, "D0101Q", 9, false);
        Check.add(loom, "D0106Q", 9, false);
        Check.add(loom, "D0107Q", 9, false);
        Check.add(loom, "F00+3", 9, false);
        Check.add(loom, "D0301", 9, false);
        Check.add(loom, "F00-6", 9, false);
        for (int table = 0; table <= 1; table++) {
            loom.table(table);
            CHECK.same("days 5 and 6", loom.isMidnight(0, 0), true);
            CHECK.same("days 5 and 6, again", loom.isMidnight(1, 0), true);
            CHECK.same("days 34 and 6", loom.isMidnight(2, 0), false);
            CHECK.same("what it needs is found with that table", loom.isMidnight(3, 0), true);
            CHECK.same("the same day", loom.isMidnight(4, 0), false);
            CHECK.same("none and day 0", loom.isMidnight(5, 0), false);
        }
        loom.dispense(0, 0, 5);
        CHECK.same("both are bent", loom.isMidnight(0, 0), true);
        CHECK.same("the table in use stays", loom.table(0), 1);
        loom.takeBack(0, 0);
        loom.dispense(0, 0, 99);
        CHECK.same("taken away", loom.isMidnight(0, 0), false);
    }

    private static void bent(String rule, int year, int due) {
        AlmanacLoom loom = new AlmanacLoom();
        Check.add(loom, rule, 5, true);
        CHECK.same("bent of " + rule + " in " + year, loom.bent(0, year), due);
        CHECK.same("day of " + rule + " in " + year, loom.day(0, year), due);
        CHECK.same("dayByDays of " + rule + " in " + year, loom.dayByDays(0, year), due);
    }

    private static void wrongFeastsAndYears() {
        AlmanacLoom loom = new AlmanacLoom();
        Check.add(loom, "D0101", 5, true);
        for (int feast : new int[] {-1, 1, 20, Integer.MAX_VALUE}) {
            CHECK.index("bent", () -> loom.bent(feast, 400));
            CHECK.index("day", () -> loom.day(feast, 400));
            CHECK.index("dayByDays", () -> loom.dayByDays(feast, 400));
            CHECK.index("isMidnight", () -> loom.isMidnight(feast, 400));
        }
        for (int year : new int[] {-1, 400, Integer.MIN_VALUE}) {
            CHECK.argument("bent", () -> loom.bent(0, year));
            CHECK.argument("day", () -> loom.day(0, year));
            CHECK.argument("dayByDays", () -> loom.dayByDays(0, year));
            CHECK.argument("isMidnight", () -> loom.isMidnight(0, year));
        }
    }
}
