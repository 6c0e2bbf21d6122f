/** Long runs of calls, the same ones each time, on the program and on the model: all answers are the same. */
public final class ModelTest {
    private static final int RUNS = 800;
    private static final int CALLS = 512;
    private static final String SIGNS = "DNLF+-><][OQX?{}WYAE!(&|)CB0123456789";

    private final Check check = new Check();
    private long seed;
    private AlmanacLoom loom;
    private Model model;
    private String run;
    private int made;

    public static void main(String[] args) {
        ModelTest test = new ModelTest();
        int runs = args.length > 0 ? Integer.parseInt(args[0]) : RUNS;
        int first = args.length > 1 ? Integer.parseInt(args[1]) : 0;
        for (int number = first; number < first + runs; number++) {
            test.go(number);
        }
        test.check.finish("ModelTest");
    }

    // a plain generator, so that a run is the same everywhere
    private int any(int bound) {
        seed = seed * 6364136223846793005L + 1442695040888963407L;
        return (int) ((seed >>> 33) % bound);
    }

    private boolean mostly() {
        return any(40) != 0;
    }

    private void go(int number) {
        seed = number * 7919L + 1;
        run = "run " + number + ": ";
        loom = new AlmanacLoom();
        model = new Model();
        made = 0;
        // few feasts at first, so that many runs know what a feast's rule may name
        for (int i = any(12); i >= 0; i--) {
            addFeast();
        }
        for (int i = any(10); i >= 0; i--) {
            addBells();
        }
        for (int i = 0; i < 2000 && made < CALLS; i++) {
            something();
        }
    }

    // an object's later answers are free
    private void same(String call, Check.Call ours, Check.Call theirs) {
        if (made < CALLS) {
            made++;
            check.same(run + call, Check.outcome(ours), Check.outcome(theirs));
        }
    }

    private void something() {
        int year = mostly() ? any(400) : any(2) * 401 - 1;
        int feast = mostly() && model.feasts() > 0 ? any(model.feasts()) : any(23) - 1;
        int kind = any(34);
        if (kind < 3) {
            addFeast();
            return;
        }
        if (kind < 5) {
            mendFeast(feast);
            return;
        }
        if (kind < 7) {
            addBells();
            return;
        }
        if (kind < 9) {
            startSearch(year);
            return;
        }
        if (kind < 11) {
            faults();
            return;
        }
        if (kind < 19) {
            askFeast(kind, feast, year);
            return;
        }
        if (kind < 26) {
            askSteps(kind, feast, year);
            return;
        }
        askBells(kind, feast, year);
    }

    private void askFeast(int kind, int feast, int year) {
        int days = mostly() ? any(61) - 30 : 31 + any(70);
        int bent = any(5) == 0 ? 99 : days;
        int rank = mostly() ? any(10) : any(2) * 11 - 1;
        boolean moves = any(3) > 0;
        switch (kind) {
            case 11:
                same("day " + feast + " " + year, () -> loom.day(feast, year), () -> model.day(feast, year));
                break;
            case 12:
                same("dayByDays " + feast + " " + year, () -> loom.dayByDays(feast, year),
                        () -> model.day(feast, year));
                break;
            case 13:
                same("bent " + feast + " " + year, () -> loom.bent(feast, year), () -> model.bent(feast, year));
                break;
            case 14:
                same("clashes " + year, () -> loom.clashes(year), () -> model.clashes(year));
                break;
            case 15:
                same("isMidnight " + feast + " " + year, () -> loom.isMidnight(feast, year),
                        () -> model.isMidnight(feast, year));
                break;
            case 16:
                bend(feast, year, bent);
                break;
            case 17:
                same("takeBack " + feast + " " + year, () -> loom.takeBack(feast, year),
                        () -> model.takeBack(feast, year));
                break;
            default:
                same("rank " + feast + " " + rank, () -> loom.rank(feast, rank, moves),
                        () -> model.rank(feast, rank, moves));
                break;
        }
    }

    private void bend(int feast, int year, int days) {
        same("dispense " + feast + " " + year + " " + days, () -> loom.dispense(feast, year, days),
                () -> model.dispense(feast, year, days));
        for (int near = Math.max(year - 1, 0); near <= Math.min(year + 1, 399) && model.feasts() > 0; near++) {
            int other = any(model.feasts());
            int in = near;
            same("day " + other + " " + near, () -> loom.day(other, in), () -> model.day(other, in));
            same("bent " + feast + " " + near, () -> loom.bent(feast, in), () -> model.bent(feast, in));
        }
        if (any(2) == 0) {
            same("takeBack " + feast + " " + year, () -> loom.takeBack(feast, year),
                    () -> model.takeBack(feast, year));
        }
    }

    private void askSteps(int kind, int feast, int year) {
        int table = mostly() ? any(2) : any(2) * 3 - 1;
        int day = mostly() ? any(146097) : any(2) * 146098 - 1;
        int ofYear = mostly() ? any(366) : any(2) * 367 - 1;
        switch (kind) {
            case 19:
                same("cost " + feast + " " + year, () -> loom.cost(feast, year), () -> model.cost(feast, year));
                break;
            case 20:
                same("yearCost " + year, () -> loom.yearCost(year), () -> model.yearCost(year));
                break;
            case 21:
                allSteps(feast);
                break;
            case 22:
                same("table " + table, () -> loom.table(table), () -> model.table(table));
                break;
            case 23:
                same("age " + day + " " + table, () -> loom.age(day, table), () -> model.age(day, table));
                break;
            case 24:
                same("date " + year + " " + ofYear, () -> loom.date(year, ofYear),
                        () -> model.date(year, ofYear));
                break;
            default:
                same("begin " + year, () -> loom.begin(year), () -> model.begin(year));
                break;
        }
    }

    private void allSteps(int feast) {
        same("steps " + feast, () -> loom.steps(feast), () -> model.steps(feast));
        int size = feast >= 0 && feast < model.feasts() ? model.steps(feast) : 0;
        for (int place = -1; place <= size; place++) {
            int at = place;
            same("step " + feast + " " + at, () -> loom.step(feast, at), () -> model.step(feast, at));
        }
    }

    private void askBells(int kind, int feast, int year) {
        int parish = mostly() ? any(6) : any(2) * 7 - 1;
        int bell = mostly() ? any(6) : any(2) * 7 - 1;
        int ringer = any(26) - 1;
        if (kind < 29) {
            same("rings " + feast + " " + year + " " + parish + " " + bell,
                    () -> loom.rings(feast, year, parish, bell), () -> model.rings(feast, year, parish, bell));
            if (any(8) == 0) {
                allRings(year);
            }
            return;
        }
        if (kind < 31) {
            same("silent " + year, () -> loom.silent(year), () -> model.silent(year));
            return;
        }
        if (kind < 33) {
            same("peals " + ringer + " " + year, () -> loom.peals(ringer, year),
                    () -> model.peals(ringer, year));
            return;
        }
        same("spent", () -> loom.spent(), () -> model.spent());
    }

    private void allRings(int year) {
        for (int feast = 0; feast < model.feasts(); feast++) {
            for (int bell = any(5); bell < 36; bell += 1 + any(9)) {
                int of = feast;
                int at = bell;
                same("rings " + of + " " + year + " " + at / 6 + " " + at % 6,
                        () -> loom.rings(of, year, at / 6, at % 6), () -> model.rings(of, year, at / 6, at % 6));
            }
            int of = feast;
            same("isMidnight " + of, () -> loom.isMidnight(of, year), () -> model.isMidnight(of, year));
        }
    }

    private void addFeast() {
        write(any(20) == 0 ? spoilt(rule(model.feasts())) : rule(model.feasts() + (any(25) == 0 ? 1 : 0)));
        int rank = mostly() ? any(10) : any(2) * 11 - 1;
        boolean moves = any(3) > 0;
        same("feast " + rank, () -> loom.feast(rank, moves), () -> model.feast(rank, moves));
        same("feasts", () -> loom.feasts(), () -> model.feasts());
    }

    private void mendFeast(int feast) {
        write(any(20) == 0 ? spoilt(rule(model.feasts())) : rule(model.feasts()));
        same("mend " + feast, () -> loom.mend(feast), () -> model.mend(feast));
    }

    private void addBells() {
        int parish = mostly() ? any(6) : any(2) * 7 - 1;
        int bells = mostly() ? any(7) : any(2) * 8 - 1;
        int rest = mostly() ? any(7) : any(2) * 8 - 1;
        same("bells " + parish + " " + bells, () -> loom.bells(parish, bells), () -> model.bells(parish, bells));
        same("ringer " + parish, () -> loom.ringer(parish, rest), () -> model.ringer(parish, rest));
    }

    private void startSearch(int year) {
        write(any(20) == 0 ? spoilt(logic(3, false, model.feasts())) : logic(any(4), false, model.feasts()));
        same("search " + year, () -> loom.search(year), () -> model.search(year));
        for (int i = any(4); i >= 0; i--) {
            int cost = mostly() ? 1 + any(i == 0 ? 3000 : 200) : any(2) * 100001;
            same("goOn " + cost, () -> loom.goOn(cost), () -> model.goOn(cost));
        }
        same("spent", () -> loom.spent(), () -> model.spent());
    }

    private void faults() {
        String right = any(3) == 0 ? logic(any(5), false, 20) : rule(20);
        write(any(3) == 0 ? right : any(3) == 0 ? spoilt(spoilt(right)) : spoilt(right));
        same("fault", () -> loom.fault(), () -> model.fault());
        same("questionFault", () -> loom.questionFault(), () -> model.questionFault());
    }

    /** Types a text in place of the one before. */
    private void write(String text) {
        same("wipe for " + text, () -> loom.wipe(), () -> model.wipe());
        for (int i = 0; i < text.length() && i < 41; i++) {
            char character = text.charAt(i);
            same("type " + character, () -> loom.type(character), () -> model.type(character));
        }
        same("fault of " + text, () -> loom.fault(), () -> model.fault());
    }

    private String spoilt(String text) {
        int place = any(text.length() + 1);
        String sign = String.valueOf(any(20) == 0 ? (char) (33 + any(94)) : SIGNS.charAt(any(SIGNS.length())));
        switch (any(4)) {
            case 0:
                return text.substring(0, place);
            case 1:
                return text.substring(0, place) + sign + text.substring(place);
            case 2:
                return text.substring(0, place) + sign + text.substring(Math.min(place + 1, text.length()));
            default:
                return text.substring(0, place) + text.substring(Math.min(place + 1, text.length()));
        }
    }

    private String two(int number) {
        return String.valueOf(100 + number).substring(1);
    }

    private String someDate() {
        int[] lengths = {31, 29, 31, 30, 31, 30, 31, 31, 30, 31, 30, 31};
        // few months, so that feasts meet; and the months round which years differ
        int month = any(3) == 0 ? 1 + any(12) : any(8) == 0 ? 12 : 1 + any(3);
        int day = any(4) == 0 ? lengths[month - 1] - any(2) : 1 + any(any(2) == 0 ? lengths[month - 1] : 6);
        return two(month) + two(day);
    }

    private String rule(int feasts) {
        String start;
        int kind = any(10);
        if (kind < 3 && feasts > 0) {
            start = "F" + two(any(Math.min(feasts, 20)));
        } else if (kind < 5) {
            // so that the tables differ, and feasts ring at midnight
            start = "D" + someDate() + (any(2) == 0 ? 'O' : 'Q');
        } else if (kind < 7) {
            start = "D" + someDate();
        } else if (kind < 9) {
            start = "N" + (1 + any(5)) + any(7) + someDate().substring(0, 2);
        } else {
            start = "L" + any(7) + someDate().substring(0, 2);
        }
        String all = start + steps(2, feasts);
        return all.length() <= 40 ? all : start + steps(0, feasts);
    }

    private String steps(int depth, int feasts) {
        StringBuilder all = new StringBuilder();
        for (int i = any(4); i > 0; i--) {
            switch (any(depth > 0 ? 9 : 6)) {
                case 0:
                case 1:
                    all.append(any(2) == 0 ? '+' : '-').append(any(any(3) == 0 ? 367 : 12));
                    break;
                case 2:
                    all.append("><][".charAt(any(4))).append(any(7));
                    break;
                case 3:
                    all.append(any(2) == 0 ? 'O' : 'Q');
                    break;
                case 4:
                    all.append(any(5) == 0 ? "X" : "+" + any(3));
                    break;
                case 5:
                    all.append("><][".charAt(any(4))).append(any(7));
                    break;
                default:
                    all.append('?').append(logic(any(3), true, feasts));
                    all.append('{').append(steps(depth - 1, feasts)).append('}');
                    if (any(2) == 0) {
                        all.append('{').append(steps(depth - 1, feasts)).append('}');
                    }
                    break;
            }
        }
        return all.toString();
    }

    private String logic(int depth, boolean inRule, int feasts) {
        int kind = any(4);
        if (depth > 0 && kind == 0) {
            return "!" + logic(depth - 1, inRule, feasts);
        }
        if (depth > 0 && kind > 1) {
            String joint = any(2) == 0 ? "&" : "|";
            return "(" + logic(depth - 1, inRule, feasts) + joint + logic(depth - 1, inRule, feasts) + ")";
        }
        String feast = two(any(Math.max(1, Math.min(feasts, 20))));
        if (inRule) {
            String needs = feasts > 0 ? "A" + feast : "Y";
            return new String[] {"W" + any(7), "Y", needs, "E" + someDate()}[any(4)];
        }
        String other = two(any(Math.max(1, Math.min(feasts, 20))));
        return new String[] {"C", "D" + feast + someDate(), "W" + feast + any(7), "N" + feast,
            "B" + feast + other}[any(5)];
    }
}
