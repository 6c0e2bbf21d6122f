import java.util.ArrayList;
import java.util.List;

/**
 * All calls that throw: if several exceptions apply, the one that the document lists first, and nothing changes. Each
 * refused call is made on one of two twins, whose answers are the same afterwards.
 */
public final class RefusalTest {
    private static final Check CHECK = new Check();
    private static final int LEAST = Integer.MIN_VALUE;
    private static final int GREATEST = Integer.MAX_VALUE;

    private interface Refused {
        Object on(AlmanacLoom loom);
    }

    private interface State {
        AlmanacLoom made();
    }

    public static void main(String[] args) {
        calendar();
        typing();
        feasts();
        mending();
        rings();
        ranks();
        dispensations();
        takingBack();
        asking();
        steps();
        searching();
        bells();
        ringing();
        newObject();
        CHECK.finish("RefusalTest");
    }

    private static void calendar() {
        for (int year : new int[] {-1, 400, LEAST, GREATEST}) {
            argument("begin " + year, "D0101", loom -> loom.begin(year));
            argument("date in " + year, "D0101", loom -> loom.date(year, 0));
        }
        for (int day : new int[] {-1, 366, LEAST, GREATEST}) {
            argument("date of " + day, "D0101", loom -> loom.date(0, day));
        }
        for (int day : new int[] {-1, 146097, LEAST, GREATEST}) {
            argument("age of " + day, "D0101", loom -> loom.age(day, 0));
        }
        for (int table : new int[] {-1, 2, LEAST, GREATEST}) {
            argument("age by " + table, "D0101", loom -> loom.age(0, table));
            argument("table " + table, "D0101", loom -> loom.table(table));
        }
    }

    private static void typing() {
        String full = "D0101" + "+1".repeat(17) + "X";
        for (char character : new char[] {0, 32, 127, 128, 255, 256, 65535}) {
            argument("type " + (int) character, "D0101", loom -> loom.type(character));
            argument("type " + (int) character + " at 40", full, loom -> loom.type(character));
        }
        for (char character : new char[] {33, 'X', 126}) {
            state("type " + character + " at 40", full, loom -> loom.type(character));
        }
    }

    private static void feasts() {
        for (int rank : new int[] {-1, 10, LEAST, GREATEST}) {
            argument("feast of rank " + rank, "D0101", loom -> loom.feast(rank, true));
            argument("feast of rank " + rank + " with no feast 04", "F04", loom -> loom.feast(rank, true));
            argumentIfFull("feast 20 of rank " + rank, "D0101", loom -> loom.feast(rank, true));
        }
        for (String text : new String[] {"", "D", "D0101Z", "D0230", "C", "N00", "F04Z", "F04?"}) {
            argument("feast with " + text, text, loom -> loom.feast(5, true));
            argumentIfFull("feast 20 with " + text, text, loom -> loom.feast(5, true));
        }
        for (String text : new String[] {"F04", "F19", "D0101?A04{}", "D0101?(Y|!A19){X}", "D0101?Y{}{?A04{}}"}) {
            state("feast with " + text, text, loom -> loom.feast(0, false));
        }
        stateIfFull("feast 20", "D0101", loom -> loom.feast(0, false));
        stateIfFull("feast 20 that names 19", "F19", loom -> loom.feast(9, true));
    }

    private static void mending() {
        for (int feast : new int[] {-1, 4, LEAST, GREATEST}) {
            for (String text : new String[] {"D0101", "", "F04", "F04Z", "C"}) {
                index("mend " + feast + " with " + text, text, loom -> loom.mend(feast));
            }
        }
        for (String text : new String[] {"", "D", "C", "F00Z", "F01Z", "F04Z", "F02?Y{"}) {
            argument("mend 0 with " + text, text, loom -> loom.mend(0));
        }
        for (String text : new String[] {"F04", "F19", "D0101?A04{}", "D0101?Y{}{?(A04|A00){}}"}) {
            state("mend 3 with " + text, text, loom -> loom.mend(3));
        }
        indexIfFull("mend 20", "D0101", loom -> loom.mend(20));
        stateIfFull("mend 0 with 19", "F19", loom -> loom.mend(0));
    }

    private static void rings() {
        // feast 01 needs 00, 02 needs 01, and 03 needs none
        String[][] rings = {{"0", "F00"}, {"0", "F01"}, {"0", "F02"}, {"0", "D0101?A00{}"}, {"0", "F03?!A02{}"},
            {"1", "F01"}, {"1", "F02"}, {"1", "D0101?Y{}{?(Y&A02){}}"}, {"2", "F02"}, {"2", "F00?A02{}"}, {"3", "F03"},
            {"3", "D0101?(A00|A03){}"}};
        for (String[] ring : rings) {
            int feast = Integer.parseInt(ring[0]);
            state("mend " + feast + " with " + ring[1], ring[1], loom -> loom.mend(feast));
        }
    }

    private static void ranks() {
        for (int feast : new int[] {-1, 4, LEAST, GREATEST}) {
            index("rank of feast " + feast, "D0101", loom -> loom.rank(feast, 5, false));
            index("rank 10 of feast " + feast, "D0101", loom -> loom.rank(feast, 10, false));
        }
        for (int rank : new int[] {-1, 10, LEAST, GREATEST}) {
            argument("rank " + rank, "D0101", loom -> loom.rank(0, rank, false));
            argument("rank " + rank, "D0101", loom -> loom.rank(1, rank, true));
        }
    }

    private static void dispensations() {
        for (int feast : new int[] {-1, 4, LEAST, GREATEST}) {
            index("dispense " + feast, "", loom -> loom.dispense(feast, 100, 1));
            index("dispense " + feast + " in 400 by 31", "", loom -> loom.dispense(feast, 400, 31));
        }
        indexIfFull("dispense 20", "", loom -> loom.dispense(20, 399, 1));
        for (int year : new int[] {-1, 400, LEAST, GREATEST}) {
            argument("dispense in " + year, "", loom -> loom.dispense(0, year, 1));
            argumentIfFull("dispense in " + year, "", loom -> loom.dispense(0, year, 1));
        }
        for (int days : new int[] {-99, -31, 31, 98, 100, LEAST, GREATEST}) {
            argument("dispense by " + days, "", loom -> loom.dispense(0, 300, days));
            argument("dispense too near by " + days, "", loom -> loom.dispense(0, 1, days));
            argumentIfFull("dispense by " + days, "", loom -> loom.dispense(0, 399, days));
        }
        // feast 00 has one in the year 1, and one in 20
        for (int year : new int[] {0, 1, 2, 10, 11, 19, 20, 21, 29}) {
            state("dispense in " + year, "", loom -> loom.dispense(0, year, 99));
        }
        for (int feast = 0; feast < 20; feast += 19) {
            int number = feast;
            stateIfFull("dispense " + feast, "", loom -> loom.dispense(number, 399, 1));
        }
        stateIfFull("dispense too near", "", loom -> loom.dispense(0, 5, 1));
    }

    private static void takingBack() {
        for (int feast : new int[] {-1, 4, LEAST, GREATEST}) {
            index("takeBack " + feast, "", loom -> loom.takeBack(feast, 1));
            index("takeBack " + feast + " in 400", "", loom -> loom.takeBack(feast, 400));
        }
        for (int year : new int[] {-1, 400, LEAST, GREATEST}) {
            argument("takeBack in " + year, "", loom -> loom.takeBack(0, year));
        }
        for (int year : new int[] {0, 2, 19, 21, 399}) {
            state("takeBack in " + year, "", loom -> loom.takeBack(0, year));
        }
        state("takeBack of another feast", "", loom -> loom.takeBack(1, 1));
        state("takeBack in the year of another feast", "", loom -> loom.takeBack(0, 40));
    }

    private static void asking() {
        for (int feast : new int[] {-1, 4, LEAST, GREATEST}) {
            for (int year : new int[] {1, 400}) {
                index("bent " + feast, "", loom -> loom.bent(feast, year));
                index("day " + feast, "", loom -> loom.day(feast, year));
                index("dayByDays " + feast, "", loom -> loom.dayByDays(feast, year));
                index("isMidnight " + feast, "", loom -> loom.isMidnight(feast, year));
                index("cost " + feast, "", loom -> loom.cost(feast, year));
            }
        }
        for (int year : new int[] {-1, 400, LEAST, GREATEST}) {
            argument("bent in " + year, "", loom -> loom.bent(0, year));
            argument("day in " + year, "", loom -> loom.day(0, year));
            argument("dayByDays in " + year, "", loom -> loom.dayByDays(0, year));
            argument("isMidnight in " + year, "", loom -> loom.isMidnight(0, year));
            argument("cost in " + year, "", loom -> loom.cost(0, year));
            argument("clashes in " + year, "", loom -> loom.clashes(year));
            argument("yearCost in " + year, "", loom -> loom.yearCost(year));
        }
    }

    private static void steps() {
        for (int feast : new int[] {-1, 4, LEAST, GREATEST}) {
            index("steps of " + feast, "", loom -> loom.steps(feast));
            index("step 0 of " + feast, "", loom -> loom.step(feast, 0));
            index("step -1 of " + feast, "", loom -> loom.step(feast, -1));
        }
        // feast 01 has 2 steps, and feast 03 has 5
        for (int place : new int[] {-1, 2, 5, 40, LEAST, GREATEST}) {
            index("step " + place, "", loom -> loom.step(1, place));
        }
        index("step 5", "", loom -> loom.step(3, 5));
        indexIfFull("steps of 20", "", loom -> loom.steps(20));
        indexIfFull("step 0 of 20", "", loom -> loom.step(20, 0));
    }

    private static void searching() {
        for (int year : new int[] {-1, 400, LEAST, GREATEST}) {
            for (String text : new String[] {"C", "", "N04", "D0101"}) {
                argument("search from " + year + " with " + text, text, loom -> loom.search(year));
            }
        }
        for (String text : new String[] {"", "D0101", "(C&C", "CC", "N04&", "!", "Y"}) {
            argument("search with " + text, text, loom -> loom.search(0));
        }
        for (String text : new String[] {"N04", "N19", "W040", "D040101", "B0400", "B0004", "(C|!N04)"}) {
            state("search with " + text, text, loom -> loom.search(399));
        }
        for (int cost : new int[] {0, -1, 100001, LEAST, GREATEST}) {
            argument("goOn with " + cost, "C", loom -> loom.goOn(cost));
        }
    }

    private static void bells() {
        for (int parish : new int[] {-1, 6, LEAST, GREATEST}) {
            index("bells of " + parish, "", loom -> loom.bells(parish, 1));
            index("7 bells of " + parish, "", loom -> loom.bells(parish, 7));
            index("ringer of " + parish, "", loom -> loom.ringer(parish, 1));
            index("ringer of " + parish + " with 7", "", loom -> loom.ringer(parish, 7));
            indexIfFull("ringer of " + parish, "", loom -> loom.ringer(parish, 1));
        }
        for (int number : new int[] {-1, 7, LEAST, GREATEST}) {
            argument("bells " + number, "", loom -> loom.bells(1, number));
            argument("ringer with " + number, "", loom -> loom.ringer(1, number));
            argumentIfFull("ringer with " + number, "", loom -> loom.ringer(1, number));
        }
        for (int parish = 0; parish < 6; parish++) {
            int number = parish;
            stateIfFull("ringer of " + parish, "", loom -> loom.ringer(number, 0));
        }
    }

    private static void ringing() {
        for (int wrong : new int[] {-1, LEAST, GREATEST}) {
            index("rings of " + wrong, "", loom -> loom.rings(wrong, 1, 0, 0));
            index("rings of " + wrong + " in 400", "", loom -> loom.rings(wrong, 400, 0, 6));
            index("rings in parish " + wrong, "", loom -> loom.rings(0, 1, wrong, 0));
            index("rings in parish " + wrong + " in 400", "", loom -> loom.rings(0, 400, wrong, 6));
            argument("rings with " + wrong, "", loom -> loom.rings(0, 1, 0, wrong));
            index("peals of " + wrong, "", loom -> loom.peals(wrong, 1));
            index("peals of " + wrong + " in 400", "", loom -> loom.peals(wrong, 400));
        }
        index("rings of 4", "", loom -> loom.rings(4, 1, 0, 0));
        index("rings in parish 6", "", loom -> loom.rings(0, 1, 6, 0));
        argument("rings with 6", "", loom -> loom.rings(0, 1, 0, 6));
        index("peals of 3", "", loom -> loom.peals(3, 1));
        indexIfFull("peals of 24", "", loom -> loom.peals(24, 1));
        for (int year : new int[] {-1, 400, LEAST, GREATEST}) {
            argument("rings in " + year, "", loom -> loom.rings(0, year, 0, 0));
            argument("rings in " + year + " with 6", "", loom -> loom.rings(0, year, 0, 6));
            argument("silent in " + year, "", loom -> loom.silent(year));
            argument("peals in " + year, "", loom -> loom.peals(0, year));
        }
    }

    /** Nothing is there on a new object: no feast, no ringer, no search. */
    private static void newObject() {
        AlmanacLoom loom = new AlmanacLoom();
        CHECK.index("mend", () -> loom.mend(0));
        CHECK.index("rank", () -> loom.rank(0, 10, true));
        CHECK.index("dispense", () -> loom.dispense(0, 0, 0));
        CHECK.index("takeBack", () -> loom.takeBack(0, 0));
        CHECK.index("bent", () -> loom.bent(0, 0));
        CHECK.index("day", () -> loom.day(0, 0));
        CHECK.index("dayByDays", () -> loom.dayByDays(0, 0));
        CHECK.index("isMidnight", () -> loom.isMidnight(0, 0));
        CHECK.index("steps", () -> loom.steps(0));
        CHECK.index("step", () -> loom.step(0, 0));
        CHECK.index("cost", () -> loom.cost(0, 0));
        CHECK.index("rings", () -> loom.rings(0, 0, 0, 0));
        CHECK.index("peals", () -> loom.peals(0, 0));
        CHECK.argument("feast", () -> loom.feast(0, true));
        CHECK.argument("search", () -> loom.search(0));
        for (int cost : new int[] {0, 100001}) {
            CHECK.argument("goOn without a search with " + cost, () -> loom.goOn(cost));
        }
        for (int cost : new int[] {1, 100000}) {
            CHECK.state("goOn without a search with " + cost, () -> loom.goOn(cost));
        }
        CHECK.same("feasts", loom.feasts(), 0);
        CHECK.same("spent", loom.spent(), 0);
    }

    private static void argument(String call, String text, Refused refused) {
        refuse(call, RefusalTest::ordinary, text, refused, "throws.IllegalArgumentException");
    }

    private static void argumentIfFull(String call, String text, Refused refused) {
        refuse(call + ", all full", RefusalTest::full, text, refused, "throws.IllegalArgumentException");
    }

    private static void state(String call, String text, Refused refused) {
        refuse(call, RefusalTest::ordinary, text, refused, "throws.IllegalStateException");
    }

    private static void stateIfFull(String call, String text, Refused refused) {
        refuse(call + ", all full", RefusalTest::full, text, refused, "throws.IllegalStateException");
    }

    private static void index(String call, String text, Refused refused) {
        refuse(call, RefusalTest::ordinary, text, refused, "throws.IndexOutOfBoundsException");
    }

    private static void indexIfFull(String call, String text, Refused refused) {
        refuse(call + ", all full", RefusalTest::full, text, refused, "throws.IndexOutOfBoundsException");
    }

    private static void refuse(String call, State state, String text, Refused refused, String due) {
        AlmanacLoom one = state.made();
        AlmanacLoom twin = state.made();
        Check.write(one, text);
        Check.write(twin, text);
        // what was asked of the text before is not what the call leans on
        one.questionFault();
        one.fault();
        CHECK.same(call, Check.outcome(() -> refused.on(one)), due);
        CHECK.same(call + " changes nothing: the answers behind it", answers(one), answers(twin));
    }

    /** Four feasts, three dispensations, three ringers, and a search that has paid. */
    private static AlmanacLoom ordinary() {
        AlmanacLoom loom = new AlmanacLoom();
        Check.add(loom, "D0106Q", 5, true);
        Check.add(loom, "F00+1", 4, false);
        Check.add(loom, "F01", 3, true);
        Check.add(loom, "D0301?Y{X}+2", 0, true);
        loom.table(AlmanacLoom.BOOK_MOON);
        loom.dispense(0, 1, -1);
        loom.dispense(0, 20, 99);
        loom.dispense(2, 40, 30);
        loom.bells(0, 2);
        loom.bells(5, 6);
        loom.ringer(0, 0);
        loom.ringer(5, 3);
        loom.ringer(0, 6);
        Check.write(loom, "(C|!N03)");
        loom.search(1);
        loom.goOn(60);
        return loom;
    }

    /** As many feasts, dispensations and ringers as there may be. */
    private static AlmanacLoom full() {
        AlmanacLoom loom = new AlmanacLoom();
        for (int feast = 0; feast < 20; feast++) {
            Check.add(loom, feast == 0 ? "D0301" : "F0" + feast / 3, feast % 10, feast % 2 == 0);
        }
        for (int i = 0; i < 30; i++) {
            loom.dispense(i % 15, 100 * (i / 15), i - 15);
        }
        for (int ringer = 0; ringer < 24; ringer++) {
            loom.ringer(ringer % 6, ringer % 7);
        }
        loom.bells(3, 6);
        Check.write(loom, "!C");
        loom.search(0);
        return loom;
    }

    /** What the object tells, and then what it answers to calls that show the rest of its state. */
    private static List<Object> answers(AlmanacLoom loom) {
        List<Object> answers = new ArrayList<>();
        answers.add(loom.fault());
        answers.add(loom.questionFault());
        answers.add(loom.spent());
        answers.add(loom.feasts());
        for (int feast = 0; feast < loom.feasts(); feast++) {
            answers.add(loom.steps(feast));
            answers.add(loom.step(feast, loom.steps(feast) - 1));
            answers.add(loom.day(feast, 1));
            answers.add(loom.bent(feast, 100));
        }
        for (int year = 0; year <= 2; year++) {
            answers.add(loom.yearCost(year));
            answers.add(loom.clashes(year));
            answers.add(loom.silent(year));
        }
        for (int ringer = 0; ringer < 24; ringer++) {
            int number = ringer;
            answers.add(Check.outcome(() -> loom.peals(number, 1)));
        }
        answers.add(loom.goOn(1000));
        answers.add(loom.spent());
        answers.add(loom.wipe());
        answers.add(loom.table(AlmanacLoom.TRUE_MOON));
        for (int feast = 0; feast < loom.feasts(); feast++) {
            answers.add(loom.rank(feast, 5, true));
        }
        for (int i = 0; i < 30; i++) {
            int feast = i % 15;
            int year = loom.feasts() == 20 ? 100 * (i / 15) : new int[] {1, 20, 40}[i % 3];
            answers.add(Check.outcome(() -> loom.takeBack(feast, year)));
        }
        for (int parish = 0; parish < 6; parish++) {
            answers.add(loom.bells(parish, 0));
        }
        answers.add(Check.outcome(() -> loom.ringer(0, 0)));
        return answers;
    }
}
