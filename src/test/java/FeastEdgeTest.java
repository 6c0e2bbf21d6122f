/** The edges of promises 10 to 20: of ranks, dispensations, needs, places, clashes and midnights. */
public final class FeastEdgeTest {
    private static final Check CHECK = new Check();

    public static void main(String[] args) {
        longestRules();
        ranks();
        mendKeepsTheRest();
        mendWithinFull();
        needs();
        bends();
        bendsNone();
        yearsApart();
        fullOfDispensations();
        placesByRank();
        placesByNumber();
        gaps();
        yearEnds();
        twentyDaysBehind();
        clashes();
        midnights();
        midnightAtYearEnds();
        midnightsOfYears();
        ownStates();
        CHECK.finish("FeastEdgeTest");
    }

    private static void longestRules() {
        AlmanacLoom loom = new AlmanacLoom();
        String longest = "D0101" + "+1".repeat(17) + "X";
        CHECK.same("a rule of 40 characters", Check.add(loom, longest, 0, true), 0);
        CHECK.same("the text is empty then", loom.type('F'), 1);
        Check.write(loom, "00" + "+1".repeat(18) + "O");
        CHECK.same("mend with 40 characters", Check.outcome(() -> loom.mend(0)), "throws.IllegalStateException");
        CHECK.same("the text is still there", loom.wipe(), 40);
        Check.write(loom, "D1201" + "+1".repeat(17) + "O");
        CHECK.same("mend with 40 others", loom.mend(0), 3);
        CHECK.same("the text is empty again", loom.wipe(), 0);
        Check.write(loom, "L001");
        CHECK.same("a rule of 4 characters", loom.mend(0), 1);
        Check.add(loom, "F00", 0, true);
        CHECK.same("a rule of 3 characters", loom.steps(1), 1);
    }

    private static void ranks() {
        AlmanacLoom loom = new AlmanacLoom();
        Check.add(loom, "D0301", 0, false);
        Check.add(loom, "D0301", 9, false);
        CHECK.same("rank 9 has the place", loom.day(1, 1), 59);
        CHECK.same("rank 0 has none", loom.day(0, 1), -1);
        for (int rank = 0; rank <= 9; rank++) {
            CHECK.same("rank before " + rank, loom.rank(0, rank, true), Math.max(rank - 1, 0));
            CHECK.same("lower, or the same and behind", loom.day(0, 1), rank < 9 ? 60 : 59);
        }
        CHECK.same("the later one of the same rank", loom.day(1, 1), -1);
        CHECK.same("the rank of the last one", loom.rank(1, 0, true), 9);
        CHECK.same("it moves then", loom.day(1, 1), 60);
    }

    private static void mendKeepsTheRest() {
        AlmanacLoom loom = new AlmanacLoom();
        Check.add(loom, "D0301", 7, true);
        Check.add(loom, "D0401", 8, false);
        loom.dispense(0, 5, 2);
        loom.dispense(0, 15, 99);
        Check.write(loom, "D0401");
        CHECK.same("mend", loom.mend(0), 1);
        CHECK.same("bent as before", loom.bent(0, 5), 92);
        CHECK.same("taken away as before", loom.bent(0, 15), -1);
        CHECK.same("it moves as before", loom.day(0, 1), 91);
        CHECK.same("feasts", loom.feasts(), 2);
        CHECK.same("the dispensation stays", loom.takeBack(0, 5), 2);
        CHECK.same("all years", loom.bent(0, 399), 90);
        CHECK.same("the rank stays", loom.rank(0, 0, false), 7);
        Check.write(loom, "D0101+0");
        CHECK.same("mend without a step of days", loom.mend(0), 1);
        CHECK.same("step", loom.step(0, 0), 10101);
        CHECK.index("the second step is gone", () -> loom.step(0, 1));
    }

    private static void mendWithinFull() {
        AlmanacLoom loom = new AlmanacLoom();
        for (int feast = 0; feast < 20; feast++) {
            Check.add(loom, "D0301", 5, false);
        }
        // against their numbers: each needs the next one
        for (int feast = 0; feast < 19; feast++) {
            Check.write(loom, "F" + (101 + feast + "").substring(1) + "+1");
            CHECK.same("mend " + feast, loom.mend(feast), 2);
        }
        CHECK.same("the longest chain", loom.bent(0, 1), 59 + 19);
        CHECK.same("the longest chain by days", loom.dayByDays(0, 1), 59 + 19);
        Check.write(loom, "F00");
        CHECK.state("the longest ring", () -> loom.mend(19));
        CHECK.state("the next one", () -> loom.mend(18));
        loom.wipe();
        Check.write(loom, "D0401");
        CHECK.same("the chain is cut", loom.mend(10), 1);
        Check.write(loom, "F00");
        CHECK.same("no ring is left", loom.mend(19), 1);
        CHECK.same("the ends are tied", loom.bent(11, 1), 90 + 10 + 8);
    }

    private static void needs() {
        AlmanacLoom loom = new AlmanacLoom();
        Check.add(loom, "D0301", 5, true);
        Check.add(loom, "F00", 5, true);
        Check.add(loom, "F00", 5, true);
        Check.write(loom, "F01?A01{}?A02{}?(A01|A02){+1}");
        CHECK.state("two needs of one, and one that is not there", () -> loom.mend(0));
        loom.wipe();
        Check.add(loom, "F01?A02{+1}{-1}", 5, true);
        CHECK.same("two ways to one", loom.bent(3, 1), 60);
        Check.write(loom, "F02");
        CHECK.same("no ring by two ways", loom.mend(1), 1);
        Check.write(loom, "F03");
        CHECK.state("a ring by one of two ways", () -> loom.mend(2));
        loom.wipe();
        Check.write(loom, "D0101?Y{X}{?!A03{}}");
        CHECK.state("a ring behind a condition that never asks", () -> loom.mend(0));
        loom.wipe();
        Check.write(loom, "D0101");
        CHECK.same("the last need is gone", loom.mend(3), 1);
        Check.write(loom, "F03");
        CHECK.same("so it may be needed", loom.mend(0), 1);
        CHECK.same("all follow", loom.bent(1, 1), 0);
    }

    private static void bends() {
        bend("D0131", 1, -30, 0);
        bend("D0130", 1, -30, -1);
        bend("D1201", 1, 30, 364);
        bend("D1202", 1, 30, -1);
        bend("D1201", 4, 30, 365);
        bend("D1202", 4, 30, -1);
        bend("D1230", 4, 1, 365);
        bend("D1231", 4, 1, -1);
        bend("D1231", 399, 0, 364);
        bend("D0101", 0, 0, 0);
        bend("D0101", 0, -1, -1);
        bend("D0228", 4, 1, 59);
        bend("D0228", 100, 1, 59);
        bend("D0601", 399, 99, -1);
    }

    private static void bend(String rule, int year, int days, int due) {
        AlmanacLoom loom = new AlmanacLoom();
        Check.add(loom, rule, 5, true);
        String call = rule + " bent by " + days + " in " + year;
        CHECK.same("dispense " + call, loom.dispense(0, year, days), 1);
        CHECK.same("bent " + call, loom.bent(0, year), due);
        CHECK.same("day " + call, loom.day(0, year), due);
        CHECK.same("dayByDays " + call, loom.dayByDays(0, year), due);
        CHECK.same("takeBack " + call, loom.takeBack(0, year), days);
    }

    private static void bendsNone() {
        AlmanacLoom loom = new AlmanacLoom();
        Check.add(loom, "D0229", 5, true);
        Check.add(loom, "D1231+1", 5, true);
        Check.add(loom, "F00?A00{+1}{O}", 5, true);
        loom.dispense(0, 1, 1);
        loom.dispense(1, 1, -1);
        loom.dispense(2, 1, 30);
        for (int feast = 0; feast <= 2; feast++) {
            CHECK.same("none stays none", loom.bent(feast, 1), -1);
            CHECK.same("none stays none by days", loom.dayByDays(feast, 1), -1);
        }
        CHECK.same("a dispensation for none is taken back", loom.takeBack(1, 1), -1);
        CHECK.same("and one of none by 30", loom.takeBack(2, 1), 30);
    }

    private static void yearsApart() {
        AlmanacLoom loom = new AlmanacLoom();
        Check.add(loom, "D0301", 5, true);
        Check.add(loom, "D0301", 5, true);
        CHECK.same("the last year", loom.dispense(0, 399, 1), 1);
        CHECK.state("9 ahead of the last year", () -> loom.dispense(0, 390, 1));
        CHECK.same("10 ahead of the last year", loom.dispense(0, 389, 1), 2);
        CHECK.same("the first year", loom.dispense(0, 0, 1), 3);
        CHECK.state("9 behind the first year", () -> loom.dispense(0, 9, 1));
        CHECK.same("10 behind the first year", loom.dispense(0, 10, 1), 4);
        CHECK.same("between two", loom.dispense(0, 20, 1), 5);
        CHECK.same("20 behind", loom.dispense(0, 40, 1), 6);
        CHECK.state("11 behind one, and 9 ahead of one", () -> loom.dispense(0, 31, 1));
        CHECK.state("9 behind one, and 11 ahead of one", () -> loom.dispense(0, 29, 1));
        CHECK.same("10 from both", loom.dispense(0, 30, 1), 7);
        CHECK.same("another feast beside it", loom.dispense(1, 31, 1), 8);
        CHECK.state("that one too near to its own", () -> loom.dispense(1, 40, 1));
        CHECK.same("takeBack", loom.takeBack(0, 30), 1);
        CHECK.state("still 9 ahead of one", () -> loom.dispense(0, 31, 1));
        CHECK.same("takeBack", loom.takeBack(0, 40), 1);
        CHECK.same("both are gone", loom.dispense(0, 31, -1), 7);
        CHECK.same("bent", loom.bent(0, 31), 58);
        CHECK.same("bent no more", loom.bent(0, 40), 60);
    }

    private static void fullOfDispensations() {
        AlmanacLoom loom = new AlmanacLoom();
        for (int feast = 0; feast < 5; feast++) {
            Check.add(loom, "D0601", 5, true);
            for (int i = 0; i < 6; i++) {
                CHECK.same("dispense", loom.dispense(feast, 50 * i, 5 * feast + i), 6 * feast + i + 1);
            }
        }
        Check.add(loom, "D0601", 5, true);
        CHECK.state("one more for a feast that has none", () -> loom.dispense(5, 399, 1));
        CHECK.same("takeBack the first", loom.takeBack(0, 0), 0);
        CHECK.same("the 30th", loom.dispense(5, 399, 1), 30);
        CHECK.state("and one more", () -> loom.dispense(5, 300, 1));
        CHECK.same("takeBack the last", loom.takeBack(5, 399), 1);
        for (int feast = 4; feast >= 0; feast--) {
            for (int i = feast == 0 ? 1 : 0; i < 6; i++) {
                CHECK.same("takeBack", loom.takeBack(feast, 50 * i), 5 * feast + i);
            }
        }
        CHECK.same("none is left", loom.dispense(3, 0, 99), 1);
    }

    private static void placesByRank() {
        AlmanacLoom loom = new AlmanacLoom();
        for (int rank = 0; rank <= 9; rank++) {
            Check.add(loom, "D0301", rank, true);
        }
        for (int rank = 0; rank <= 9; rank++) {
            CHECK.same("rank " + rank, loom.day(rank, 1), 59 + 9 - rank);
            CHECK.same("rank " + rank + " by days", loom.dayByDays(rank, 1), 59 + 9 - rank);
        }
    }

    private static void placesByNumber() {
        AlmanacLoom loom = new AlmanacLoom();
        for (int feast = 0; feast < 20; feast++) {
            Check.add(loom, "D0301", 3, true);
        }
        for (int feast = 0; feast < 20; feast++) {
            CHECK.same("number " + feast, loom.day(feast, 1), 59 + feast);
            CHECK.same("number " + feast + " by days", loom.dayByDays(feast, 1), 59 + feast);
        }
        CHECK.same("the pairs of all", loom.clashes(1), 20 * 19 / 2);
    }

    private static void gaps() {
        AlmanacLoom loom = new AlmanacLoom();
        Check.add(loom, "D0301", 1, true);
        Check.add(loom, "D0301", 9, false);
        Check.add(loom, "D0302", 9, false);
        Check.add(loom, "D0304", 9, false);
        places(loom, 1, 61, 59, 60, 62);
        Check.add(loom, "D0303", 1, false);
        // the one that waits came first by number, and so it is placed first
        places(loom, 1, 61, 59, 60, 62, -1);
        loom.rank(4, 2, false);
        places(loom, 1, 63, 59, 60, 62, 61);
        loom.rank(0, 1, false);
        places(loom, 1, -1, 59, 60, 62, 61);
        loom.rank(0, 9, false);
        places(loom, 1, 59, -1, 60, 62, 61);
    }

    private static void yearEnds() {
        AlmanacLoom loom = new AlmanacLoom();
        Check.add(loom, "D1230", 9, true);
        Check.add(loom, "D1230", 8, true);
        Check.add(loom, "D1230", 7, true);
        for (int year : new int[] {0, 1, 100, 399}) {
            int last = year == 0 ? 365 : 364;
            places(loom, year, last - 1, last, -1);
        }
        // the year behind has no place taken by them
        Check.add(loom, "D0101", 0, false);
        places(loom, 1, 363, 364, -1, 0);
    }

    /** With 20 feasts the farthest day is 19 behind: nothing stands in the way of the 20th one. */
    private static void twentyDaysBehind() {
        AlmanacLoom loom = new AlmanacLoom();
        for (int feast = 0; feast < 19; feast++) {
            Check.add(loom, "D0301+" + feast, 9, false);
        }
        Check.add(loom, "D0301", 1, true);
        CHECK.same("behind 19 others", loom.day(19, 1), 59 + 19);
        CHECK.same("behind 19 others by days", loom.dayByDays(19, 1), 59 + 19);
        loom.rank(19, 1, false);
        CHECK.same("it does not move", loom.day(19, 1), -1);
        CHECK.same("it does not wait", loom.dayByDays(19, 1), -1);
    }

    private static void places(AlmanacLoom loom, int year, int... days) {
        for (int feast = 0; feast < days.length; feast++) {
            CHECK.same("day " + feast + " in " + year, loom.day(feast, year), days[feast]);
            CHECK.same("dayByDays " + feast + " in " + year, loom.dayByDays(feast, year), days[feast]);
        }
    }

    private static void clashes() {
        AlmanacLoom loom = new AlmanacLoom();
        Check.add(loom, "D0106", 5, false);
        CHECK.same("one feast does not clash", loom.clashes(0), 0);
        Check.add(loom, "D0101Q", 5, false);
        Check.add(loom, "D0107", 5, false);
        CHECK.same("by the true table with the first one", loom.clashes(0), 1);
        loom.table(AlmanacLoom.BOOK_MOON);
        CHECK.same("by the book with the last one", loom.clashes(0), 1);
        Check.add(loom, "D0107", 5, false);
        CHECK.same("by the book with both", loom.clashes(0), 3);
        Check.add(loom, "D0106", 5, false);
        CHECK.same("two days with clashes", loom.clashes(0), 4);
        loom.table(AlmanacLoom.TRUE_MOON);
        CHECK.same("by the true table again", loom.clashes(0), 4);
        loom.dispense(1, 0, 99);
        CHECK.same("what is taken away does not clash", loom.clashes(0), 2);
    }

    private static void midnights() {
        AlmanacLoom loom = new AlmanacLoom();
        Check.add(loom, "D0106Q", 9, false);
        Check.add(loom, "D0106Q?E0107{}{+1}", 9, false);
        Check.add(loom, "D0106Q?E0107{+1}", 9, false);
        Check.add(loom, "D0106Q?E0107{+2}", 9, false);
        Check.add(loom, "D0106Q?E0107{+3}", 9, false);
        Check.add(loom, "D0106Q?E0107{X}", 9, false);
        Check.add(loom, "D0106Q?E0107{}{X}", 9, false);
        Check.add(loom, "D0229", 9, false);
        Check.add(loom, "D0701?A00{+1}", 9, false);
        Check.add(loom, "F00X", 9, false);
        boolean[] due = {true, false, false, true, false, false, false, false, false, false};
        for (int table = 0; table <= 1; table++) {
            loom.table(table);
            for (int feast = 0; feast < due.length; feast++) {
                CHECK.same("isMidnight " + feast, loom.isMidnight(feast, 0), due[feast]);
            }
        }
        // the bent days count, not the places
        Check.add(loom, "D0106Q", 0, true);
        CHECK.same("it moved", loom.day(10, 0) - loom.bent(10, 0), 2);
        CHECK.same("it rings at midnight", loom.isMidnight(10, 0), true);
    }

    private static void midnightAtYearEnds() {
        // the year 0's last new moons are on the days 359 and 360, so that both ways one is behind the year's end
        AlmanacLoom loom = new AlmanacLoom();
        Check.add(loom, "D1215Q", 9, false);
        int apart = loom.bent(0, 0);
        loom.table(AlmanacLoom.BOOK_MOON);
        CHECK.same("the book is a day behind", loom.bent(0, 0), apart + 1);
        Check.add(loom, "F00+" + (365 - apart - 1), 9, false);
        Check.add(loom, "F00+" + (365 - apart), 9, false);
        Check.add(loom, "F00-" + apart, 9, false);
        Check.add(loom, "F00-" + (apart + 1), 9, false);
        CHECK.same("on the last two days", loom.isMidnight(1, 0), true);
        CHECK.same("one is behind the year", loom.isMidnight(2, 0), false);
        CHECK.same("on the first two days", loom.isMidnight(3, 0), true);
        CHECK.same("one is ahead of the year", loom.isMidnight(4, 0), false);
        loom.dispense(1, 0, 1);
        loom.dispense(3, 0, -1);
        CHECK.same("one is bent behind the year", loom.isMidnight(1, 0), false);
        CHECK.same("one is bent ahead of the year", loom.isMidnight(3, 0), false);
    }

    private static void midnightsOfYears() {
        for (int first = 0; first <= 399; first += 50) {
            AlmanacLoom loom = new AlmanacLoom();
            Check.add(loom, "D0301O", 9, false);
            Check.add(loom, "D1201Q?W0{+7}", 9, false);
            for (int year = first; year < first + 50; year++) {
                midnight(loom, year % 2, year);
            }
        }
    }

    private static void midnight(AlmanacLoom loom, int feast, int year) {
        loom.table(AlmanacLoom.TRUE_MOON);
        int one = loom.bent(feast, year);
        loom.table(AlmanacLoom.BOOK_MOON);
        int other = loom.bent(feast, year);
        boolean due = one >= 0 && other >= 0 && (one == other + 1 || other == one + 1);
        CHECK.same("isMidnight " + feast + " in " + year, loom.isMidnight(feast, year), due);
    }

    private static void ownStates() {
        AlmanacLoom one = new AlmanacLoom();
        AlmanacLoom other = new AlmanacLoom();
        Check.add(one, "D0101", 5, true);
        Check.write(one, "C");
        one.table(AlmanacLoom.BOOK_MOON);
        one.bells(0, 6);
        one.ringer(0, 1);
        CHECK.same("no feast", other.feasts(), 0);
        CHECK.same("no text", other.wipe(), 0);
        CHECK.same("the table at first", other.table(AlmanacLoom.BOOK_MOON), AlmanacLoom.TRUE_MOON);
        CHECK.same("no bells", other.bells(0, 1), 0);
        CHECK.same("no ringer", other.ringer(0, 1), 0);
    }
}
