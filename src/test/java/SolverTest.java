/** Promises 25 to 27: search, goOn, spent. */
public final class SolverTest {
    private static final Check CHECK = new Check();

    public static void main(String[] args) {
        search();
        pauses();
        end();
        claims();
        logic();
        followsChanges();
        exactCosts();
        leftoversAreLost();
        firstAndLastYears();
        dearYears();
        anewInPlaceOfTheOneBefore();
        refusedSearches();
        edgesOfClaims();
        costsByTable();
        dearestYears();
        CHECK.finish("SolverTest");
    }

    private static void search() {
        AlmanacLoom loom = new AlmanacLoom();
        CHECK.argument("goOn with 0", () -> loom.goOn(0));
        CHECK.argument("goOn with 100001", () -> loom.goOn(100001));
        CHECK.state("goOn without a search", () -> loom.goOn(1));
        CHECK.argument("search without a question", () -> loom.search(0));
        Check.write(loom, "(C|N00)");
        CHECK.argument("search from -1", () -> loom.search(-1));
        CHECK.argument("search from 400", () -> loom.search(400));
        CHECK.state("search with a feast that there is not", () -> loom.search(0));
        CHECK.state("goOn still without a search", () -> loom.goOn(1));
        CHECK.same("the text is still there", loom.wipe(), 7);
        Check.add(loom, "D0101", 0, true);
        Check.write(loom, "B0001");
        CHECK.state("search with a second feast that there is not", () -> loom.search(0));
        loom.wipe();
        Check.write(loom, "(C|N00)");
        CHECK.same("search", loom.search(7), 2);
        CHECK.same("the text is empty", loom.wipe(), 0);
        CHECK.same("nothing is paid", loom.spent(), 0);
        CHECK.same("goOn", loom.goOn(2), 7);
        CHECK.argument("search without a question again", () -> loom.search(0));
        CHECK.same("the search goes on", loom.goOn(100000), 8);
        CHECK.argument("goOn with -1", () -> loom.goOn(-1));
        CHECK.same("spent", loom.spent(), 4);
    }

    private static void pauses() {
        AlmanacLoom loom = new AlmanacLoom();
        Check.add(loom, "D0229?Y{+1}", 0, true);
        Check.write(loom, "W006");
        CHECK.same("search", loom.search(1), 4);
        CHECK.same("too little", loom.goOn(3), AlmanacLoom.PAUSED);
        CHECK.same("nothing is paid", loom.spent(), 0);
        CHECK.same("one year", loom.goOn(4), AlmanacLoom.PAUSED);
        CHECK.same("one is paid", loom.spent(), 4);
        CHECK.same("two years", loom.goOn(11), AlmanacLoom.PAUSED);
        CHECK.same("three are paid", loom.spent(), 12);
        CHECK.same("a leap year is dearer", loom.goOn(4), AlmanacLoom.PAUSED);
        CHECK.same("it is not paid", loom.spent(), 12);
        // 1 March of the years 4, 8, 12, 16 and 20 are a Monday, a Saturday, and so on
        CHECK.same("found", loom.goOn(100000), 8);
        CHECK.same("only that far", loom.spent(), 12 + 5 + 12 + 5);
        Check.write(loom, "W001");
        CHECK.same("search anew", loom.search(0), 5);
        CHECK.same("what was paid stays", loom.spent(), 34);
        CHECK.same("found anew", loom.goOn(22), 4);
        CHECK.same("all searches together", loom.spent(), 34 + 22);
    }

    private static void end() {
        AlmanacLoom loom = new AlmanacLoom();
        Check.write(loom, "!C");
        CHECK.same("search", loom.search(390), 1);
        CHECK.same("nine years", loom.goOn(9), AlmanacLoom.PAUSED);
        CHECK.same("the last year", loom.goOn(1), AlmanacLoom.NONE);
        CHECK.same("no year is left", loom.goOn(1), AlmanacLoom.NONE);
        CHECK.same("spent", loom.spent(), 10);
        Check.write(loom, "C");
        CHECK.same("search", loom.search(399), 1);
        CHECK.same("the last year is found", loom.goOn(1), 399);
        CHECK.same("no year is left then", loom.goOn(1), AlmanacLoom.NONE);
        CHECK.same("spent then", loom.spent(), 11);
    }

    private static void claims() {
        AlmanacLoom loom = new AlmanacLoom();
        Check.add(loom, "D0301", 5, true);
        Check.add(loom, "D0301", 4, true);
        Check.add(loom, "D0229?!Y{}{X}", 4, true);
        Check.add(loom, "D0228+1", 3, false);
        holds(loom, 1, "C", false);
        holds(loom, 1, "D000301", true);
        holds(loom, 1, "D010302", true);
        holds(loom, 1, "D010301", false);
        holds(loom, 1, "D000229", false);
        holds(loom, 1, "D030301", false);
        holds(loom, 1, "W004", true);
        holds(loom, 1, "W014", false);
        holds(loom, 1, "W015", true);
        holds(loom, 1, "W026", false);
        holds(loom, 1, "N00", false);
        holds(loom, 1, "N02", true);
        holds(loom, 1, "N03", true);
        holds(loom, 1, "B0001", true);
        holds(loom, 1, "B0100", false);
        holds(loom, 1, "B0000", false);
        holds(loom, 1, "B0200", false);
        holds(loom, 1, "B0002", false);
        holds(loom, 4, "D030229", true);
        holds(loom, 4, "B0300", true);
        for (int feast = 4; feast < 20; feast++) {
            Check.add(loom, "D0701+" + feast, 3, false);
        }
        // 17 July of the year 1 is a Tuesday
        holds(loom, 1, "W162", true);
        holds(loom, 1, "W163", false);
        holds(loom, 1, "D190720", true);
        holds(loom, 1, "B1819", true);
        holds(loom, 1, "B1918", false);
        holds(loom, 1, "N19", false);
        loom.dispense(0, 4, 1);
        holds(loom, 4, "C", true);
        holds(loom, 4, "D000302", true);
    }

    private static void logic() {
        AlmanacLoom loom = new AlmanacLoom();
        Check.add(loom, "D0101", 5, true);
        String yes = "D000101";
        String no = "N00";
        holds(loom, 3, "!" + yes, false);
        holds(loom, 3, "!" + no, true);
        holds(loom, 3, "!!" + no, false);
        holds(loom, 3, "(" + yes + "&" + yes + ")", true);
        holds(loom, 3, "(" + yes + "&" + no + ")", false);
        holds(loom, 3, "(" + no + "&" + yes + ")", false);
        holds(loom, 3, "(" + no + "|" + yes + ")", true);
        holds(loom, 3, "(" + yes + "|" + no + ")", true);
        holds(loom, 3, "(" + no + "|" + no + ")", false);
        holds(loom, 3, "!(" + no + "|" + no + ")", true);
        holds(loom, 3, "((" + yes + "|" + no + ")&" + no + ")", false);
        holds(loom, 3, "(" + yes + "|(" + no + "&" + no + "))", true);
        holds(loom, 3, "(" + no + "&(" + yes + "|" + yes + "))", false);
        holds(loom, 3, "!".repeat(39) + "C", false);
    }

    private static void followsChanges() {
        AlmanacLoom loom = new AlmanacLoom();
        Check.add(loom, "D0106Q", 5, true);
        Check.write(loom, "D000106");
        loom.search(0);
        CHECK.same("goOn", loom.goOn(8), 0);
        Check.write(loom, "D0106");
        loom.mend(0);
        CHECK.same("a mended feast is cheaper", loom.goOn(2), 1);
        loom.dispense(0, 2, 1);
        CHECK.same("a bent feast is elsewhere", loom.goOn(4), 3);
        Check.write(loom, "D0104+2O");
        loom.mend(0);
        CHECK.same("spent", loom.spent(), 8 + 2 + 4);
        loom.wipe();
        Check.write(loom, "D0106Q");
        loom.mend(0);
        Check.write(loom, "D000107");
        loom.table(AlmanacLoom.BOOK_MOON);
        CHECK.same("search by the book", loom.search(0), 8);
        CHECK.same("goOn by the book", loom.goOn(8), 0);
    }

    private static void exactCosts() {
        AlmanacLoom loom = new AlmanacLoom();
        Check.add(loom, "D0101OQ", 5, true);
        Check.write(loom, "C");
        CHECK.same("search", loom.search(5), 14);
        CHECK.same("one too little", loom.goOn(13), AlmanacLoom.PAUSED);
        CHECK.same("nothing is paid", loom.spent(), 0);
        CHECK.same("the least cost", loom.goOn(1), AlmanacLoom.PAUSED);
        CHECK.same("the same year is next", loom.goOn(14), 5);
        CHECK.same("it is paid", loom.spent(), 14);
        CHECK.same("one more is not needed", loom.goOn(15), 6);
        CHECK.same("the greatest cost", loom.goOn(100000), 7);
        CHECK.same("only years are paid", loom.spent(), 3 * 14);
    }

    /** What is left of a cost is not kept for the next call. */
    private static void leftoversAreLost() {
        AlmanacLoom loom = new AlmanacLoom();
        Check.add(loom, "D0101", 5, true);
        Check.write(loom, "N00");
        CHECK.same("search", loom.search(0), 2);
        for (int i = 1; i <= 5; i++) {
            CHECK.same("one is left", loom.goOn(3), AlmanacLoom.PAUSED);
            CHECK.same("one year is paid", loom.spent(), 2 * i);
        }
        CHECK.same("a half year", loom.goOn(1), AlmanacLoom.PAUSED);
        CHECK.same("and the other half", loom.goOn(1), AlmanacLoom.PAUSED);
        CHECK.same("are no year", loom.spent(), 10);
    }

    private static void firstAndLastYears() {
        AlmanacLoom loom = new AlmanacLoom();
        Check.write(loom, "!C");
        CHECK.same("search", loom.search(0), 1);
        CHECK.same("no year of all", loom.goOn(100000), AlmanacLoom.NONE);
        CHECK.same("all are paid", loom.spent(), 400);
        Check.write(loom, "!C");
        loom.search(0);
        CHECK.same("one year is left", loom.goOn(399), AlmanacLoom.PAUSED);
        CHECK.same("none is left", loom.goOn(1), AlmanacLoom.NONE);
        CHECK.same("nothing is paid for none", loom.goOn(100000), AlmanacLoom.NONE);
        CHECK.same("all are paid twice", loom.spent(), 800);
        Check.add(loom, "D0101", 5, true);
        CHECK.same("a dearer year behind the last one", loom.goOn(1), AlmanacLoom.NONE);
        Check.write(loom, "C");
        CHECK.same("search", loom.search(399), 2);
        CHECK.same("the last year is too dear", loom.goOn(1), AlmanacLoom.PAUSED);
        CHECK.same("the last year", loom.goOn(2), 399);
        CHECK.same("no next one", loom.goOn(2), AlmanacLoom.NONE);
        CHECK.same("spent", loom.spent(), 802);
    }

    private static void dearYears() {
        AlmanacLoom loom = new AlmanacLoom();
        for (int feast = 0; feast < 20; feast++) {
            Check.add(loom, "D0101O+1Q", 5, true);
        }
        Check.write(loom, "!N00");
        CHECK.same("search", loom.search(0), 20 * 14 + 1);
        CHECK.same("too dear", loom.goOn(280), AlmanacLoom.PAUSED);
        CHECK.same("just enough", loom.goOn(281), 0);
        Check.write(loom, "N00");
        loom.search(0);
        CHECK.same("not as far as the end", loom.goOn(100000), AlmanacLoom.PAUSED);
        int years = 100000 / 281;
        CHECK.same("whole years are paid", loom.spent(), 281 * (1 + years));
        CHECK.same("the others", loom.goOn(100000), AlmanacLoom.NONE);
        CHECK.same("all years are paid", loom.spent(), 281 * (1 + 400));
    }

    private static void anewInPlaceOfTheOneBefore() {
        AlmanacLoom loom = new AlmanacLoom();
        Check.add(loom, "D0101", 5, true);
        Check.write(loom, "W000");
        loom.search(0);
        // the year 6 begins on a Sunday
        CHECK.same("a Sunday", loom.goOn(100000), 6);
        Check.write(loom, "W006");
        CHECK.same("from the first year again", loom.search(0), 2);
        CHECK.same("a Saturday", loom.goOn(2), 0);
        CHECK.same("the next Saturday", loom.goOn(100000), 5);
        Check.write(loom, "W006");
        loom.search(0);
        CHECK.same("the same question from there on", loom.goOn(2), 0);
        CHECK.same("spent", loom.spent(), 2 * (7 + 6 + 1));
        Check.write(loom, "!".repeat(37) + "N00");
        CHECK.same("a question of 40 characters", loom.search(300), 2);
        CHECK.same("it holds", loom.goOn(2), 300);
    }

    /** A search that is refused leaves the one before. */
    private static void refusedSearches() {
        AlmanacLoom loom = new AlmanacLoom();
        Check.add(loom, "D0101", 5, true);
        Check.write(loom, "W000");
        loom.search(7);
        Check.write(loom, "N01");
        CHECK.state("a feast that there is not", () -> loom.search(0));
        CHECK.argument("a wrong year", () -> loom.search(400));
        loom.type('1');
        CHECK.argument("no question", () -> loom.search(0));
        CHECK.argument("goOn with 0", () -> loom.goOn(0));
        CHECK.same("the text stays", loom.wipe(), 4);
        CHECK.same("the search before goes on", loom.goOn(100000), 12);
        CHECK.same("the years 7 to 12 are paid", loom.spent(), 12);
    }

    private static void edgesOfClaims() {
        AlmanacLoom loom = new AlmanacLoom();
        holds(loom, 0, "C", true);
        Check.add(loom, "D0229", 5, true);
        Check.add(loom, "D1231", 5, true);
        Check.add(loom, "D0101", 5, true);
        Check.add(loom, "D1231", 4, true);
        holds(loom, 0, "D000229", true);
        holds(loom, 0, "D000301", false);
        holds(loom, 0, "D000228", false);
        holds(loom, 100, "D000229", false);
        holds(loom, 100, "N00", true);
        holds(loom, 0, "N00", false);
        holds(loom, 0, "D011231", true);
        holds(loom, 1, "D011231", true);
        holds(loom, 0, "D020101", true);
        holds(loom, 399, "D020101", true);
        // behind the last day no place is left
        holds(loom, 1, "N03", true);
        holds(loom, 1, "D031231", false);
        holds(loom, 1, "C", false);
        holds(loom, 1, "B0203", false);
        holds(loom, 1, "B0302", false);
        holds(loom, 1, "B0201", true);
        holds(loom, 1, "B0102", false);
        holds(loom, 1, "B0202", false);
        holds(loom, 100, "B0001", false);
        holds(loom, 100, "B0100", false);
        holds(loom, 100, "B0000", false);
        // 31 December of the years 0 and 1 are a Sunday and a Monday
        holds(loom, 0, "W010", true);
        holds(loom, 1, "W011", true);
        holds(loom, 1, "W010", false);
        holds(loom, 0, "W026", true);
        for (int weekday = 0; weekday <= 6; weekday++) {
            holds(loom, 1, "W00" + weekday, false);
            holds(loom, 1, "W03" + weekday, false);
        }
    }

    private static void holds(AlmanacLoom loom, int year, String question, boolean due) {
        Check.write(loom, question);
        int cost = loom.search(year);
        CHECK.same(question + " in " + year, loom.goOn(cost), due ? year : AlmanacLoom.PAUSED);
    }

    /** In the year 0, the new moon behind 6 January is on day 5, a Thursday, or on day 6, a Friday. */
    private static void costsByTable() {
        AlmanacLoom loom = new AlmanacLoom();
        Check.add(loom, "D0106Q?W5{>0}", 0, true);
        int[] due = {10, 12};
        for (int table : new int[] {AlmanacLoom.BOOK_MOON, AlmanacLoom.TRUE_MOON, AlmanacLoom.BOOK_MOON}) {
            loom.table(table);
            CHECK.same("yearCost by " + table, loom.yearCost(0), due[table]);
            Check.write(loom, "C");
            CHECK.same("search by " + table, loom.search(0), due[table]);
            long before = loom.spent();
            CHECK.same("goOn by " + table + ", too little", loom.goOn(due[table] - 1), AlmanacLoom.PAUSED);
            CHECK.same("goOn by " + table, loom.goOn(due[table]), 0);
            CHECK.same("spent by " + table, loom.spent() - before, due[table]);
        }
    }

    /** Ten feasts of 40 characters: more would leave too few of 512 calls. */
    private static void dearestYears() {
        AlmanacLoom loom = new AlmanacLoom();
        int price = 1 + 1 + 9 * (2 + 37 * 6);
        Check.add(loom, "D0101", 0, false);
        for (int feast = 1; feast < 10; feast++) {
            Check.add(loom, "F00" + "O".repeat(37), 0, false);
        }
        CHECK.same("yearCost", loom.yearCost(399), price);
        Check.write(loom, "N00");
        CHECK.same("search", loom.search(0), price);
        int years = 0;
        for (int i = 0; i < 8; i++) {
            CHECK.same("goOn", loom.goOn(100000), AlmanacLoom.PAUSED);
            years += 100000 / price;
            CHECK.same("spent", loom.spent(), years * price);
        }
        CHECK.same("the next year is just too dear", loom.goOn(price - 1), AlmanacLoom.PAUSED);
        CHECK.same("the last years", loom.goOn((400 - years) * price), AlmanacLoom.NONE);
        CHECK.same("all years", loom.spent(), 400 * price);
    }
}
