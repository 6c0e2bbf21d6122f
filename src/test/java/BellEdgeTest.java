/** The edges of promises 28 to 32: of ranks, bells, rests, days and midnights. */
public final class BellEdgeTest {
    private static final Check CHECK = new Check();

    public static void main(String[] args) {
        bellsByRank();
        restsByDays();
        restsBehindMidnight();
        sameDayAsBehindMidnight();
        midnightThatMoved();
        allParishes();
        onlyOneParish();
        fewestAndLowest();
        silentIsNoBell();
        yearsApart();
        setAnew();
        noneRing();
        fullestYear();
        takingTurns();
        CHECK.finish("BellEdgeTest");
    }

    private static void bellsByRank() {
        for (int bells = 0; bells <= 6; bells++) {
            AlmanacLoom loom = new AlmanacLoom();
            Check.add(loom, "D0301", 0, false);
            loom.bells(2, bells);
            for (int ringer = 0; ringer < 6; ringer++) {
                loom.ringer(2, 0);
            }
            for (int rank = 0; rank <= 9; rank++) {
                loom.rank(0, rank, false);
                int ringing = Math.min(rank, bells);
                for (int bell = 0; bell <= 5; bell++) {
                    String call = "bell " + bell + " of " + bells + " by rank " + rank;
                    CHECK.same(call, loom.rings(0, 1, 2, bell), bell < ringing ? bell : -1);
                }
                CHECK.same("the last that rings", loom.peals(5, 1), ringing == 6 ? 1 : 0);
                CHECK.same("none is silent", loom.silent(1), 0);
            }
        }
    }

    private static void restsByDays() {
        for (int rest = 0; rest <= 6; rest++) {
            for (int days = 1; days <= 8; days++) {
                AlmanacLoom loom = new AlmanacLoom();
                Check.add(loom, "D0301", 1, false);
                Check.add(loom, "F00+" + days, 1, false);
                loom.bells(0, 1);
                loom.ringer(0, rest);
                boolean isRested = days > rest;
                String call = days + " days behind, with a rest of " + rest;
                CHECK.same(call, loom.rings(1, 1, 0, 0), isRested ? 0 : -1);
                CHECK.same("silent " + call, loom.silent(1), isRested ? 0 : 1);
                CHECK.same("peals " + call, loom.peals(0, 1), isRested ? 2 : 1);
            }
        }
    }

    private static void restsBehindMidnight() {
        for (int rest = 0; rest <= 6; rest++) {
            for (int days = 1; days <= 9; days++) {
                AlmanacLoom loom = new AlmanacLoom();
                // by the true table it is on the day 5, a day ahead of the other one
                Check.add(loom, "D0106Q", 1, false);
                Check.add(loom, "D0106+" + days, 1, false);
                loom.bells(0, 1);
                loom.ringer(0, rest);
                CHECK.same("isMidnight", loom.isMidnight(0, 0), true);
                boolean isRested = days > rest + 1;
                String call = days + " days behind a midnight, with a rest of " + rest;
                CHECK.same(call, loom.rings(1, 0, 0, 0), isRested ? 0 : -1);
                CHECK.same("peals " + call, loom.peals(0, 0), isRested ? 2 : 1);
            }
        }
    }

    /** Who rings for a feast that rings at midnight has one bell on that day, as on others. */
    private static void sameDayAsBehindMidnight() {
        AlmanacLoom loom = new AlmanacLoom();
        Check.add(loom, "D0106Q", 3, false);
        loom.bells(0, 3);
        loom.ringer(0, 0);
        loom.ringer(0, 0);
        CHECK.same("bell 0", loom.rings(0, 0, 0, 0), 0);
        CHECK.same("bell 1", loom.rings(0, 0, 0, 1), 1);
        CHECK.same("bell 2", loom.rings(0, 0, 0, 2), -1);
        CHECK.same("silent", loom.silent(0), 1);
        // whoever is free on the day behind rings then, with more bells or not
        Check.add(loom, "D0107", 2, false);
        loom.ringer(0, 6);
        CHECK.same("bell 2 then", loom.rings(0, 0, 0, 2), 2);
        CHECK.same("no one is free", loom.rings(1, 0, 0, 0), -1);
        CHECK.same("bells on two days are silent", loom.silent(0), 2);
        loom.rank(0, 2, false);
        CHECK.same("the third one is free", loom.rings(1, 0, 0, 0), 2);
        CHECK.same("but no other one", loom.rings(1, 0, 0, 1), -1);
    }

    private static void midnightThatMoved() {
        AlmanacLoom loom = new AlmanacLoom();
        Check.add(loom, "D0106Q", 1, true);
        Check.add(loom, "D0106", 9, false);
        Check.add(loom, "D0108", 1, false);
        Check.add(loom, "D0109", 1, false);
        loom.bells(1, 1);
        loom.ringer(1, 0);
        CHECK.same("the day 6 is next to the bent day", loom.day(0, 0), 6);
        CHECK.same("it rings on its place", loom.rings(0, 0, 1, 0), 0);
        CHECK.same("the first one", loom.rings(1, 0, 1, 0), 0);
        CHECK.same("the day behind its place is lost", loom.rings(2, 0, 1, 0), -1);
        CHECK.same("and no more", loom.rings(3, 0, 1, 0), 0);
    }

    private static void allParishes() {
        AlmanacLoom loom = new AlmanacLoom();
        Check.add(loom, "D0301", 9, false);
        for (int parish = 0; parish <= 5; parish++) {
            loom.bells(parish, 6);
        }
        CHECK.same("all are silent", loom.silent(1), 36);
        for (int ringer = 0; ringer < 24; ringer++) {
            CHECK.same("ringer", loom.ringer(ringer % 6, 6), ringer);
        }
        for (int parish = 0; parish <= 5; parish++) {
            for (int bell = 0; bell <= 5; bell++) {
                int ringer = bell < 4 ? 6 * bell + parish : -1;
                CHECK.same("bell " + bell + " of " + parish, loom.rings(0, 1, parish, bell), ringer);
            }
        }
        CHECK.same("two of each parish are silent", loom.silent(1), 12);
        for (int ringer = 0; ringer < 24; ringer++) {
            CHECK.same("peals " + ringer, loom.peals(ringer, 1), 1);
        }
    }

    private static void onlyOneParish() {
        AlmanacLoom loom = new AlmanacLoom();
        for (int i = 0; i < 20; i++) {
            Check.add(loom, "D0301+" + i, 9, false);
        }
        loom.bells(5, 6);
        for (int ringer = 0; ringer < 24; ringer++) {
            loom.ringer(5, 6);
        }
        // six on each of four days; the first ones are rested on the eighth day
        for (int i = 0; i < 20; i++) {
            int first = i % 7 < 4 ? 6 * (i % 7) : -1;
            CHECK.same("first bell " + i, loom.rings(i, 1, 5, 0), first);
            CHECK.same("last bell " + i, loom.rings(i, 1, 5, 5), first < 0 ? -1 : first + 5);
        }
        CHECK.same("peals of the first", loom.peals(0, 1), 3);
        CHECK.same("peals of the last", loom.peals(23, 1), 3);
        CHECK.same("six bells on eight days are silent", loom.silent(1), 48);
    }

    private static void fewestAndLowest() {
        AlmanacLoom loom = new AlmanacLoom();
        for (int i = 0; i < 5; i++) {
            Check.add(loom, "D0301+" + 10 * i, 1, false);
        }
        loom.bells(0, 2);
        loom.ringer(1, 0);
        loom.ringer(0, 0);
        loom.ringer(0, 0);
        int[] due = {1, 2, 1, 2, 1};
        for (int feast = 0; feast < 5; feast++) {
            CHECK.same("in turns " + feast, loom.rings(feast, 1, 0, 0), due[feast]);
        }
        CHECK.same("peals of the first one", loom.peals(1, 1), 3);
        CHECK.same("peals of the second one", loom.peals(2, 1), 2);
        loom.ringer(0, 0);
        int[] dueThen = {1, 2, 3, 1, 2};
        for (int feast = 0; feast < 5; feast++) {
            CHECK.same("in turns of three " + feast, loom.rings(feast, 1, 0, 0), dueThen[feast]);
        }
        CHECK.same("another parish's ringer", loom.peals(0, 1), 0);
        // the fewest go ahead of the lowest, bell by bell
        loom.rank(1, 2, false);
        CHECK.same("bell 0", loom.rings(1, 1, 0, 0), 2);
        CHECK.same("bell 1", loom.rings(1, 1, 0, 1), 3);
        CHECK.same("the lowest of all with one", loom.rings(2, 1, 0, 0), 1);
    }

    /** A ringer who is not rested is passed over, and a silent bell counts for nobody. */
    private static void silentIsNoBell() {
        AlmanacLoom loom = new AlmanacLoom();
        Check.add(loom, "D0301", 1, false);
        Check.add(loom, "D0303", 1, false);
        Check.add(loom, "D0305", 1, false);
        loom.bells(4, 1);
        loom.ringer(4, 3);
        CHECK.same("the first day", loom.rings(0, 1, 4, 0), 0);
        CHECK.same("two days behind", loom.rings(1, 1, 4, 0), -1);
        CHECK.same("four days behind the last bell", loom.rings(2, 1, 4, 0), 0);
        CHECK.same("silent", loom.silent(1), 1);
        CHECK.same("peals", loom.peals(0, 1), 2);
        loom.ringer(4, 6);
        CHECK.same("another one is free", loom.rings(1, 1, 4, 0), 1);
        CHECK.same("the one with more bells is the only one rested", loom.rings(2, 1, 4, 0), 0);
    }

    private static void yearsApart() {
        AlmanacLoom loom = new AlmanacLoom();
        Check.add(loom, "D1231", 1, false);
        Check.add(loom, "D0101", 1, false);
        loom.bells(0, 1);
        loom.ringer(0, 6);
        for (int year : new int[] {0, 1, 2, 3, 4, 100, 398, 399}) {
            CHECK.same("the first day of " + year, loom.rings(1, year, 0, 0), 0);
            CHECK.same("the last day of " + year, loom.rings(0, year, 0, 0), 0);
            CHECK.same("peals of " + year, loom.peals(0, year), 2);
            CHECK.same("silent in " + year, loom.silent(year), 0);
        }
        loom.dispense(1, 50, 99);
        CHECK.same("bent in one year", loom.peals(0, 50), 1);
        CHECK.same("not in the next one", loom.peals(0, 51), 2);
    }

    private static void setAnew() {
        AlmanacLoom loom = new AlmanacLoom();
        Check.add(loom, "D0301", 9, false);
        loom.ringer(3, 0);
        CHECK.same("no bells at first", loom.rings(0, 1, 3, 0), -1);
        CHECK.same("nothing is silent without bells", loom.silent(1), 0);
        CHECK.same("bells", loom.bells(3, 6), 0);
        CHECK.same("one rings", loom.rings(0, 1, 3, 0), 0);
        CHECK.same("five are silent", loom.silent(1), 5);
        CHECK.same("bells", loom.bells(3, 1), 6);
        CHECK.same("none is silent", loom.silent(1), 0);
        CHECK.same("bells", loom.bells(3, 1), 1);
        CHECK.same("bells", loom.bells(3, 0), 1);
        CHECK.same("none rings", loom.peals(0, 1), 0);
        CHECK.same("none rings there", loom.rings(0, 1, 3, 0), -1);
        CHECK.same("bells", loom.bells(3, 0), 0);
    }

    /** A feast without a place rings no bell, and no bell of it is silent. */
    private static void noneRing() {
        AlmanacLoom loom = new AlmanacLoom();
        loom.bells(0, 6);
        loom.ringer(0, 0);
        CHECK.same("no feasts, no silence", loom.silent(0), 0);
        Check.add(loom, "D0229", 9, false);
        Check.add(loom, "D0229", 8, false);
        Check.add(loom, "D0301", 0, false);
        CHECK.same("no such day", loom.rings(0, 1, 0, 0), -1);
        CHECK.same("rank 0 rings none", loom.rings(2, 1, 0, 0), -1);
        CHECK.same("none is silent", loom.silent(1), 0);
        CHECK.same("peals", loom.peals(0, 1), 0);
        CHECK.same("a leap year has that day", loom.rings(0, 4, 0, 0), 0);
        CHECK.same("the other one has no place", loom.rings(1, 4, 0, 0), -1);
        CHECK.same("five are silent", loom.silent(4), 5);
        loom.dispense(0, 4, 99);
        CHECK.same("it is taken away", loom.rings(0, 4, 0, 0), -1);
        CHECK.same("the other one rings", loom.rings(1, 4, 0, 0), 0);
    }

    /** All feasts, all bells and all ringers that there may be: the feasts fill 20 days. */
    private static void fullestYear() {
        AlmanacLoom loom = fullOfFeasts();
        for (int parish = 0; parish < 6; parish++) {
            loom.bells(parish, 6);
        }
        CHECK.same("all bells on 20 days are silent", loom.silent(1), 720);
        for (int ringer = 0; ringer < 24; ringer++) {
            loom.ringer(ringer % 6, 0);
        }
        CHECK.same("two of each parish are silent on 20 days", loom.silent(1), 240);
        for (int ringer = 0; ringer < 24; ringer++) {
            CHECK.same("a bell on each day", loom.peals(ringer, 1), 20);
        }
        for (int parish = 0; parish < 6; parish++) {
            for (int bell = 0; bell < 6; bell++) {
                CHECK.same("the last feast's bell", loom.rings(19, 1, parish, bell), bell < 4 ? parish + 6 * bell : -1);
            }
        }
    }

    /** Who has had the fewest bells is told beyond ten as well. */
    private static void takingTurns() {
        AlmanacLoom loom = fullOfFeasts();
        loom.bells(4, 1);
        loom.ringer(4, 0);
        loom.ringer(4, 1);
        for (int feast = 0; feast < 20; feast++) {
            CHECK.same("in turn", loom.rings(feast, 1, 4, 0), feast % 2);
        }
        CHECK.same("half of them", loom.peals(0, 1), 10);
        CHECK.same("the other half", loom.peals(1, 1), 10);
        loom.ringer(4, 6);
        int[] due = {0, 1, 2, 0, 1, 0, 1, 0, 1, 2, 0, 1, 0, 1, 0, 1, 2, 0, 1, 0};
        for (int feast = 0; feast < 20; feast++) {
            CHECK.same("with a third one, who rests long", loom.rings(feast, 1, 4, 0), due[feast]);
        }
        CHECK.same("who rests not", loom.peals(0, 1), 9);
        CHECK.same("who rests a day", loom.peals(1, 1), 8);
        CHECK.same("who rests six days", loom.peals(2, 1), 3);
        CHECK.same("none is silent", loom.silent(1), 0);
    }

    private static AlmanacLoom fullOfFeasts() {
        AlmanacLoom loom = new AlmanacLoom();
        for (int feast = 0; feast < 20; feast++) {
            Check.add(loom, "D0301", 9, true);
        }
        return loom;
    }
}
