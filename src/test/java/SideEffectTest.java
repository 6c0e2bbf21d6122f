import java.util.ArrayList;
import java.util.LinkedHashMap;
import java.util.List;
import java.util.Map;

/**
 * Each call that is no refused one changes what it tells, and nothing else: it is made on one of two twins, whose
 * answers are the same afterwards, but for those whose names begin as it is allowed.
 */
public final class SideEffectTest {
    private static final Check CHECK = new Check();
    private static final String[] RULES = {"D0106Q", "F00+1", "F00+1?W3{-1}{]5}", "F01", "D0229?Y{+1}", "F00", "D0701"};
    private static final int[] RANKS = {5, 4, 7, 3, 0, 9, 2};
    private static final boolean[] MOVES = {true, false, true, false, true, false, false};
    private static final int[] YEARS = {0, 1, 40};
    // feast, year and days of each dispensation
    private static final int[][] BENT = {{0, 20, 99}, {1, 40, -3}, {2, 1, 2}, {2, 40, 0}, {4, 300, 30}};

    private interface Call {
        void on(AlmanacLoom loom);
    }

    public static void main(String[] args) {
        questions();
        texts();
        feasts();
        dispensations();
        searches();
        bells();
        CHECK.finish("SideEffectTest");
    }

    private static void questions() {
        for (int year : YEARS) {
            keeps("begin", loom -> loom.begin(year));
            keeps("date", loom -> loom.date(year, 60));
            keeps("age", loom -> loom.age(year, AlmanacLoom.TRUE_MOON));
            keeps("clashes", loom -> loom.clashes(year));
            keeps("yearCost", loom -> loom.yearCost(year));
            keeps("silent", loom -> loom.silent(year));
            keeps("peals", loom -> loom.peals(1, year));
            for (int feast = 0; feast < RULES.length; feast++) {
                int number = feast;
                keeps("bent", loom -> loom.bent(number, year));
                keeps("day", loom -> loom.day(number, year));
                keeps("dayByDays", loom -> loom.dayByDays(number, year));
                keeps("isMidnight", loom -> loom.isMidnight(number, year));
                keeps("cost", loom -> loom.cost(number, year));
                keeps("rings", loom -> loom.rings(number, year, 0, 1));
                keeps("steps", loom -> loom.steps(number));
                keeps("step", loom -> loom.step(number, 0));
            }
        }
        keeps("feasts", loom -> loom.feasts());
        keeps("spent", loom -> loom.spent());
        keeps("fault", loom -> loom.fault());
        keeps("questionFault", loom -> loom.questionFault());
        keeps("fault and back", loom -> { loom.questionFault(); loom.fault(); });
    }

    private static void texts() {
        keeps("type", loom -> loom.type('1'), "text");
        keeps("type of 36 more", loom -> Check.write(loom, "1".repeat(36)), "text");
        keeps("wipe", AlmanacLoom::wipe, "text");
        keeps("wipe of nothing", loom -> { loom.wipe(); loom.wipe(); }, "text");
        keeps("the same text again", loom -> { loom.wipe(); Check.write(loom, "N001"); });
    }

    private static void feasts() {
        keeps("feast", loom -> add(loom, "D0101X", 0, false), "text", "feasts", "yearCost", "solver");
        keeps("feasts", loom -> { add(loom, "D0101X", 0, true); add(loom, "F07", 0, true); },
            "text", "feasts", "yearCost", "solver");
        for (int feast = 0; feast < RULES.length; feast++) {
            int number = feast;
            keeps("mend by its own rule", loom -> mend(loom, number, RULES[number]), "text");
            keeps("mend and back", loom -> { mend(loom, number, "D1224"); mend(loom, number, RULES[number]); }, "text");
            keeps("its own rank", loom -> loom.rank(number, RANKS[number], MOVES[number]));
            keeps("rank and back", loom -> {
                loom.rank(number, 9 - RANKS[number], !MOVES[number]);
                loom.rank(number, RANKS[number], MOVES[number]);
            });
        }
        // on 1 July, and with rank 2 as before, the feast is alone, and rings as before
        keeps("mend", loom -> mend(loom, 6, "D0630+1"), "text", "rule 6", "yearCost", "solver");
        keeps("mend by a moon", loom -> mend(loom, 6, "D0701O"),
            "text", "rule 6", "of 6", "yearCost", "solver", "rings 6", "silent", "peals");
        keeps("rank", loom -> loom.rank(6, 2, true), "moves 6");
        keeps("another rank", loom -> loom.rank(6, 3, false), "rank 6", "rings", "silent", "peals");
        keeps("table and back", loom -> { loom.table(AlmanacLoom.TRUE_MOON); loom.table(AlmanacLoom.BOOK_MOON); });
        keeps("the same table", loom -> loom.table(AlmanacLoom.BOOK_MOON));
    }

    private static void dispensations() {
        keeps("dispense", loom -> loom.dispense(6, 200, 5), "bent by 6 in 200", "dispensations");
        keeps("dispense and back", loom -> { loom.dispense(1, 50, 5); loom.takeBack(1, 50); });
        for (int[] bent : BENT) {
            keeps("takeBack and back", loom -> {
                loom.takeBack(bent[0], bent[1]);
                loom.dispense(bent[0], bent[1], bent[2]);
            });
        }
        keeps("takeBack", loom -> loom.takeBack(4, 300), "bent by 4 in 300", "dispensations");
        keeps("takeBack by 0 days", loom -> loom.takeBack(2, 40), "bent by 2 in 40", "dispensations");
    }

    private static void searches() {
        keeps("search", loom -> search(loom, "N06", 100), "text", "solver goOn", "solver spent then");
        keeps("the same search again", loom -> search(loom, "(!D000117&!N00)", 3), "text");
        keeps("a search ahead of the same", loom -> {
            search(loom, "C", 300);
            search(loom, "(!D000117&!N00)", 3);
        }, "text");
        keeps("goOn", loom -> loom.goOn(100), "solver");
        keeps("goOn to the end", loom -> { search(loom, "!(C|!C)", 0); loom.goOn(100000); }, "text", "solver");
        keeps("goOn with too little", loom -> loom.goOn(1));
    }

    private static void bells() {
        for (int parish = 0; parish < 6; parish++) {
            int number = parish;
            keeps("bells and back", loom -> loom.bells(number, loom.bells(number, 3)));
        }
        keeps("bells", loom -> loom.bells(3, 6), "bells 3", "silent");
        keeps("fewer bells", loom -> loom.bells(5, 1), "bells 5", "silent", "rings", "peals");
        keeps("ringer without bells", loom -> loom.ringer(2, 1), "ringers", "peals 5");
        keeps("ringer", loom -> loom.ringer(0, 0), "ringers", "rings", "silent", "peals");
    }

    private static void add(AlmanacLoom loom, String rule, int rank, boolean moves) {
        loom.wipe();
        Check.add(loom, rule, rank, moves);
    }

    private static void mend(AlmanacLoom loom, int feast, String rule) {
        loom.wipe();
        Check.write(loom, rule);
        loom.mend(feast);
    }

    private static void search(AlmanacLoom loom, String question, int year) {
        loom.wipe();
        Check.write(loom, question);
        loom.search(year);
    }

    private static void keeps(String name, Call call, String... allowed) {
        AlmanacLoom one = made();
        call.on(one);
        Map<String, Object> got = answers(one);
        for (Map.Entry<String, Object> due : answers(made()).entrySet()) {
            String answer = due.getKey();
            if (List.of(allowed).stream().noneMatch(answer::contains)) {
                CHECK.same(answer + " behind " + name, got.get(answer), due.getValue());
            }
        }
    }

    private static AlmanacLoom made() {
        AlmanacLoom loom = new AlmanacLoom();
        loom.table(AlmanacLoom.BOOK_MOON);
        for (int feast = 0; feast < RULES.length; feast++) {
            Check.add(loom, RULES[feast], RANKS[feast], MOVES[feast]);
        }
        for (int[] bent : BENT) {
            loom.dispense(bent[0], bent[1], bent[2]);
        }
        loom.bells(0, 3);
        loom.bells(1, 1);
        loom.bells(5, 6);
        for (int ringer = 0; ringer < 5; ringer++) {
            loom.ringer(ringer % 2 == 0 ? 0 : 5, ringer);
        }
        search(loom, "W003", 5);
        loom.goOn(100);
        search(loom, "(!D000117&!N00)", 3);
        Check.write(loom, "N001");
        return loom;
    }

    /** All that the object answers, by names; the calls that change it come last. */
    private static Map<String, Object> answers(AlmanacLoom loom) {
        Map<String, Object> answers = new LinkedHashMap<>();
        answers.put("text: fault", loom.fault());
        answers.put("text: questionFault", loom.questionFault());
        answers.put("text: length", loom.wipe());
        answers.put("solver spent", loom.spent());
        answers.put("feasts", loom.feasts());
        for (int feast = 0; feast < RULES.length; feast++) {
            answers.put("rule " + feast, rule(loom, feast));
            for (int year : YEARS) {
                answers.put("days of " + feast + " in " + year, List.of(loom.bent(feast, year), loom.day(feast, year),
                    loom.dayByDays(feast, year), loom.isMidnight(feast, year)));
                answers.put((feast == 6 ? "rule " : "cost ") + feast + " in " + year, loom.cost(feast, year));
            }
            answers.put("rings " + feast, List.of(loom.rings(feast, 1, 0, 0), loom.rings(feast, 1, 0, 2),
                loom.rings(feast, 1, 1, 0), loom.rings(feast, 1, 5, 5)));
        }
        for (int year : YEARS) {
            answers.put("clashes in " + year, loom.clashes(year));
            answers.put("yearCost in " + year, loom.yearCost(year));
            answers.put("silent in " + year, loom.silent(year));
        }
        for (int ringer = 0; ringer < 6; ringer++) {
            int number = ringer;
            answers.put("peals " + ringer, Check.outcome(() -> loom.peals(number, 1)));
        }
        answers.put("solver goOn", loom.goOn(200));
        answers.put("solver spent then", loom.spent());
        answers.put("table", loom.table(AlmanacLoom.TRUE_MOON));
        putWhatIsSet(loom, answers);
        return answers;
    }

    private static List<Integer> rule(AlmanacLoom loom, int feast) {
        List<Integer> steps = new ArrayList<>();
        for (int place = 0; place < loom.steps(feast); place++) {
            steps.add(loom.step(feast, place));
        }
        return steps;
    }

    private static void putWhatIsSet(AlmanacLoom loom, Map<String, Object> answers) {
        for (int feast = 0; feast < RULES.length; feast++) {
            answers.put("rank " + feast, loom.rank(feast, 5, true));
        }
        answers.put("dispensations", loom.dispense(6, 250, 1));
        for (int[] bent : BENT) {
            answers.put("bent by " + bent[0] + " in " + bent[1],
                Check.outcome(() -> loom.takeBack(bent[0], bent[1])));
        }
        answers.put("bent by 6 in 200", Check.outcome(() -> loom.takeBack(6, 200)));
        for (int parish = 0; parish < 6; parish++) {
            answers.put("bells " + parish, loom.bells(parish, 0));
        }
        answers.put("ringers", loom.ringer(0, 0));
    }
}
