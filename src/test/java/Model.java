import java.util.ArrayList;
import java.util.HashMap;
import java.util.HashSet;
import java.util.List;
import java.util.Map;
import java.util.Set;

/**
 * The document once more, written another way than the program: faults by all grammar stacks at once, rules and
 * questions as trees, costs from the trees, days by stepping from one to the next. ModelTest compares both.
 */
final class Model {
    private static final int[] LENGTHS = {31, 28, 31, 30, 31, 30, 31, 31, 30, 31, 30, 31};
    private static final Map<Character, List<String>> GRAMMAR = grammar();

    // ---- the grammar; a capital of the document stands for itself, so nonterminals have codes above 127

    private static final char RULE = 200, STEPS = 201, NUMBER = 202, CONDITION = 203, DATE = 204, MONTH = 205;
    private static final char FEAST = 206, WEEKDAY = 207, NTH = 208, QUESTION = 209;

    private static Map<Character, List<String>> grammar() {
        Map<Character, List<String>> all = new HashMap<>();
        all.put(RULE, List.of("D" + DATE + STEPS, "N" + NTH + WEEKDAY + MONTH + STEPS, "L" + WEEKDAY + MONTH + STEPS,
                "F" + FEAST + STEPS));
        String branch = "?" + CONDITION + "{" + STEPS + "}";
        all.put(STEPS, List.of("", "+" + NUMBER + STEPS, "-" + NUMBER + STEPS, ">" + WEEKDAY + STEPS,
                "<" + WEEKDAY + STEPS, "]" + WEEKDAY + STEPS, "[" + WEEKDAY + STEPS, "O" + STEPS, "Q" + STEPS,
                "X" + STEPS, branch + STEPS, branch + "{" + STEPS + "}" + STEPS));
        all.put(CONDITION, List.of("W" + WEEKDAY, "Y", "A" + FEAST, "E" + DATE, "!" + CONDITION,
                "(" + CONDITION + "&" + CONDITION + ")", "(" + CONDITION + "|" + CONDITION + ")"));
        all.put(QUESTION, List.of("C", "D" + FEAST + DATE, "W" + FEAST + WEEKDAY, "N" + FEAST, "B" + FEAST + FEAST,
                "!" + QUESTION, "(" + QUESTION + "&" + QUESTION + ")", "(" + QUESTION + "|" + QUESTION + ")"));
        all.put(NTH, List.of("1", "2", "3", "4", "5"));
        all.put(WEEKDAY, List.of("0", "1", "2", "3", "4", "5", "6"));
        List<String> numbers = new ArrayList<>();
        for (int width = 1; width <= 3; width++) {
            for (int n = 0; n <= 366; n++) {
                if (String.valueOf(n).length() <= width) {
                    numbers.add(String.format("%0" + width + "d", n));
                }
            }
        }
        all.put(NUMBER, numbers);
        List<String> months = new ArrayList<>();
        List<String> dates = new ArrayList<>();
        for (int month = 1; month <= 12; month++) {
            months.add(String.format("%02d", month));
            for (int day = 1; day <= LENGTHS[month - 1] + (month == 2 ? 1 : 0); day++) {
                dates.add(String.format("%02d%02d", month, day));
            }
        }
        all.put(MONTH, months);
        all.put(DATE, dates);
        List<String> feasts = new ArrayList<>();
        for (int feast = 0; feast <= 19; feast++) {
            feasts.add(String.format("%02d", feast));
        }
        all.put(FEAST, feasts);
        return all;
    }

    private static int faultOf(String text, char start) {
        Set<String> stacks = new HashSet<>();
        stacks.add(String.valueOf(start));
        for (int place = 0; place < text.length(); place++) {
            Set<String> next = new HashSet<>();
            for (String stack : stacks) {
                follow(stack, text.charAt(place), next);
            }
            if (next.isEmpty()) {
                return place;
            }
            stacks = next;
        }
        for (String stack : stacks) {
            if (stack.chars().allMatch(symbol -> symbol == STEPS)) {
                return -1;
            }
        }
        return text.length();
    }

    private static void follow(String stack, char read, Set<String> next) {
        if (stack.isEmpty()) {
            return;
        }
        char top = stack.charAt(0);
        String rest = stack.substring(1);
        if (!GRAMMAR.containsKey(top)) {
            if (top == read) {
                next.add(rest);
            }
            return;
        }
        for (String product : GRAMMAR.get(top)) {
            if (product.isEmpty() || GRAMMAR.containsKey(product.charAt(0)) || product.charAt(0) == read) {
                follow(product + rest, read, next);
            }
        }
    }

    // ---- trees

    private record Node(char kind, int number, List<Node> parts, List<Node> others) {
    }

    private static final class Reader {
        private final String text;
        private int place;

        Reader(String text) {
            this.text = text;
        }

        private char look() {
            return place < text.length() ? text.charAt(place) : '$';
        }

        private int digits(int count) {
            int number = Integer.parseInt(text.substring(place, place + count));
            place += count;
            return number;
        }

        List<Node> rule() {
            List<Node> all = new ArrayList<>();
            char kind = text.charAt(place++);
            // told apart from steps and conditions by small letters
            all.add(new Node(Character.toLowerCase(kind), digits(kind == 'F' ? 2 : kind == 'L' ? 3 : 4), null, null));
            all.addAll(steps());
            return all;
        }

        private List<Node> steps() {
            List<Node> all = new ArrayList<>();
            while (look() != '$' && look() != '}') {
                char kind = text.charAt(place++);
                if (kind == '+' || kind == '-') {
                    place--;
                    all.add(new Node('+', sum(), null, null));
                } else if (kind == '?') {
                    all.add(branch());
                } else if ("><][".indexOf(kind) >= 0) {
                    all.add(new Node(kind, digits(1), null, null));
                } else {
                    all.add(new Node(kind, 0, null, null));
                }
            }
            return all;
        }

        private int sum() {
            int sum = 0;
            while (look() == '+' || look() == '-') {
                int sign = text.charAt(place++) == '+' ? 1 : -1;
                int end = place;
                while (end < text.length() && Character.isDigit(text.charAt(end))) {
                    end++;
                }
                sum += sign * digits(end - place);
            }
            return sum;
        }

        private Node branch() {
            Node condition = logic(true);
            List<Node> parts = new ArrayList<>(List.of(condition));
            place++;
            parts.addAll(steps());
            place++;
            List<Node> others = null;
            if (look() == '{') {
                place++;
                others = steps();
                place++;
            }
            return new Node('?', 0, parts, others);
        }

        Node logic(boolean inRule) {
            char kind = text.charAt(place++);
            if (kind == '!') {
                return new Node('!', 0, List.of(logic(inRule)), null);
            }
            if (kind == '(') {
                Node first = logic(inRule);
                char joint = text.charAt(place++);
                Node second = logic(inRule);
                place++;
                return new Node(joint, 0, List.of(first, second), null);
            }
            String kinds = inRule ? "W1Y0A2E4" : "C0D6W3N2B4";
            int count = kinds.charAt(kinds.indexOf(kind) + 1) - '0';
            return new Node(kind, count == 0 ? 0 : digits(count), null, null);
        }
    }

    private static void names(List<Node> nodes, boolean inRule, Set<Integer> named) {
        for (Node node : nodes == null ? List.<Node>of() : nodes) {
            names(node.parts, inRule, named);
            names(node.others, inRule, named);
            char kind = node.kind;
            if (inRule && (kind == 'f' || kind == 'A') || !inRule && kind == 'N') {
                named.add(node.number);
            } else if (!inRule && kind == 'D') {
                named.add(node.number / 10000);
            } else if (!inRule && kind == 'W') {
                named.add(node.number / 10);
            } else if (!inRule && kind == 'B') {
                named.add(node.number / 100);
                named.add(node.number % 100);
            }
        }
    }

    private static void compile(List<Node> nodes, List<Integer> steps) {
        for (Node node : nodes) {
            int kind = "dnlf+><][OQXWYAE".indexOf(node.kind) + 1;
            if (node.kind == '+') {
                if (node.number != 0) {
                    steps.add(55000 + node.number);
                }
            } else if (kind > 0) {
                steps.add(10000 * kind + node.number);
            } else if (node.kind == '!') {
                compile(node.parts, steps);
                steps.add(170000);
            } else if (node.kind == '&' || node.kind == '|') {
                compile(node.parts.subList(0, 1), steps);
                int jump = steps.size();
                steps.add(0);
                compile(node.parts.subList(1, 2), steps);
                steps.set(jump, (node.kind == '&' ? 190000 : 200000) + steps.size());
            } else {
                compile(node.parts.subList(0, 1), steps);
                int jump = steps.size();
                steps.add(0);
                compile(node.parts.subList(1, node.parts.size()), steps);
                if (node.others == null) {
                    steps.set(jump, 190000 + steps.size());
                } else {
                    int over = steps.size();
                    steps.add(0);
                    steps.set(jump, 190000 + steps.size());
                    compile(node.others, steps);
                    steps.set(over, 180000 + steps.size());
                }
            }
        }
    }

    // ---- days

    private static final class Feast {
        List<Node> rule;
        int rank;
        boolean moves;
        final Map<Integer, Integer> bends = new HashMap<>();
        final Set<Integer> needs = new HashSet<>();
    }

    private static final class Found {
        Integer day;
        int cost;
    }

    private static final int[] YEAR_STARTS = new int[401];
    private static final boolean[][] NEW = new boolean[2][146600];
    private static final int[][] AGES = new int[2][146600];

    static {
        for (int year = 0; year < 400; year++) {
            YEAR_STARTS[year + 1] = YEAR_STARTS[year] + lengthOf(year);
        }
        for (int table = 0; table < 2; table++) {
            for (long k = 0; k < 5000; k++) {
                long day = table == 0 ? 945 * k / 32 + 5 : 6940 * k / 235 + 6;
                if (day < NEW[table].length) {
                    NEW[table][(int) day] = true;
                }
            }
            // the moon ahead of the first one: -29.53 rounded down is -30, so it is 30 days ahead of that
            int age = 24 - table;
            for (int day = 0; day < NEW[table].length; day++) {
                age = NEW[table][day] ? 0 : age + 1;
                AGES[table][day] = age;
            }
        }
    }

    private static boolean isLeap(int year) {
        return year % 400 == 0 || year % 4 == 0 && year % 100 != 0;
    }

    private static int lengthOf(int year) {
        return isLeap(year) ? 366 : 365;
    }

    private static int monthLength(int year, int month) {
        return LENGTHS[month - 1] + (month == 2 && isLeap(year) ? 1 : 0);
    }

    private static int dateAt(int year, int day) {
        int left = day;
        for (int month = 1; month <= 12; month++) {
            if (left < monthLength(year, month)) {
                return 100 * month + left + 1;
            }
            left -= monthLength(year, month);
        }
        return -1;
    }

    private static int weekdayAt(int year, int day) {
        return (YEAR_STARTS[year] + day + 6) % 7;
    }

    private Integer start(Node node, int year, int table) {
        if (node.kind == 'f') {
            return bentDay(node.number, year, table);
        }
        Integer last = null;
        int count = 0;
        for (int day = 0; day < lengthOf(year); day++) {
            int date = dateAt(year, day);
            if (node.kind == 'd' && date == node.number) {
                return day;
            }
            boolean fits = date / 100 == node.number % 100 && weekdayAt(year, day) == node.number / 100 % 10;
            if (node.kind != 'd' && fits) {
                last = day;
                count++;
                if (node.kind == 'n' && count == node.number / 1000) {
                    return day;
                }
            }
        }
        return node.kind == 'l' ? last : null;
    }

    private void walk(List<Node> nodes, Found found, int year, int table) {
        for (Node node : nodes) {
            if (node.kind == '?') {
                boolean holds = holds(node.parts.get(0), found, year, table);
                found.cost++;
                if (holds) {
                    walk(node.parts.subList(1, node.parts.size()), found, year, table);
                    found.cost += node.others == null ? 0 : 1;
                } else if (node.others != null) {
                    walk(node.others, found, year, table);
                }
            } else if ("dnlf".indexOf(node.kind) >= 0) {
                found.cost += node.kind == 'd' ? 1 : node.kind == 'f' ? 2 : 3;
                found.day = start(node, year, table);
            } else if (node.kind != '+' || node.number != 0) {
                found.cost += node.kind == '+' || node.kind == 'X' ? 1 : node.kind == 'O' || node.kind == 'Q' ? 6 : 2;
                found.day = found.day == null ? null : move(node, found.day, year, table);
            }
        }
    }

    private static Integer move(Node node, int from, int year, int table) {
        if (node.kind == 'X') {
            return null;
        }
        if (node.kind == '+') {
            int day = from + node.number;
            return day >= 0 && day < lengthOf(year) ? day : null;
        }
        boolean back = node.kind == '<' || node.kind == '[';
        int day = node.kind == '>' ? from + 1 : node.kind == '<' ? from - 1 : from;
        while (day >= 0 && day < lengthOf(year)) {
            int age = AGES[table][YEAR_STARTS[year] + day];
            boolean fits = node.kind == 'O' ? age == 14 : node.kind == 'Q' ? age == 0
                    : weekdayAt(year, day) == node.number;
            if (fits) {
                return day;
            }
            day += back ? -1 : 1;
        }
        return null;
    }

    private boolean holds(Node node, Found found, int year, int table) {
        switch (node.kind) {
            case '!':
                boolean inner = holds(node.parts.get(0), found, year, table);
                found.cost++;
                return !inner;
            case '&':
            case '|':
                boolean first = holds(node.parts.get(0), found, year, table);
                found.cost++;
                return first == (node.kind == '&') ? holds(node.parts.get(1), found, year, table) : first;
            case 'Y':
                found.cost++;
                return isLeap(year);
            case 'A':
                found.cost += 2;
                return found.day != null && found.day.equals(bentDay(node.number, year, table));
            case 'W':
                found.cost++;
                return found.day != null && weekdayAt(year, found.day) == node.number;
            default:
                found.cost++;
                return found.day != null && dateAt(year, found.day) < node.number;
        }
    }

    private final Map<Integer, Integer> known = new HashMap<>();

    private Integer bentDay(int feast, int year, int table) {
        if (known.containsKey(feast)) {
            return known.get(feast);
        }
        Found found = new Found();
        walk(feasts.get(feast).rule, found, year, table);
        Integer by = feasts.get(feast).bends.get(year);
        Integer day = found.day;
        if (by != null && day != null) {
            day = by == 99 || day + by < 0 || day + by >= lengthOf(year) ? null : Integer.valueOf(day + by);
        }
        known.put(feast, day);
        return day;
    }

    private Integer[] bentDays(int year, int table) {
        known.clear();
        Integer[] all = new Integer[feasts.size()];
        for (int feast = 0; feast < all.length; feast++) {
            all[feast] = bentDay(feast, year, table);
        }
        return all;
    }

    private int costIn(int feast, int year) {
        known.clear();
        Found found = new Found();
        walk(feasts.get(feast).rule, found, year, tableInUse);
        return found.cost;
    }

    private Integer[] places(int year) {
        Integer[] bent = bentDays(year, tableInUse);
        Integer[] placed = new Integer[bent.length];
        Set<Integer> taken = new HashSet<>();
        for (int rank = 9; rank >= 0; rank--) {
            for (int feast = 0; feast < bent.length; feast++) {
                if (feasts.get(feast).rank != rank || bent[feast] == null) {
                    continue;
                }
                int tries = feasts.get(feast).moves ? 20 : 0;
                for (int day = bent[feast]; day <= bent[feast] + tries && placed[feast] == null; day++) {
                    if (day < lengthOf(year) && taken.add(day)) {
                        placed[feast] = day;
                    }
                }
            }
        }
        return placed;
    }

    // ---- the face

    private final StringBuilder text = new StringBuilder();
    private final List<Feast> feasts = new ArrayList<>();
    private int tableInUse;
    private Node question;
    private int nextYear;
    private long paid;
    private final int[] bellCounts = new int[6];
    private final List<int[]> ringers = new ArrayList<>();

    private static void argument(boolean right) {
        if (!right) {
            throw new IllegalArgumentException();
        }
    }

    private static void state(boolean right) {
        if (!right) {
            throw new IllegalStateException();
        }
    }

    private static void index(boolean right) {
        if (!right) {
            throw new IndexOutOfBoundsException();
        }
    }

    private static boolean isYear(int year) {
        return year >= 0 && year < 400;
    }

    private boolean isFeast(int feast) {
        return feast >= 0 && feast < feasts.size();
    }

    int begin(int year) {
        argument(isYear(year));
        return YEAR_STARTS[year];
    }

    int date(int year, int day) {
        argument(isYear(year) && day >= 0 && day <= 365);
        return day < lengthOf(year) ? dateAt(year, day) : -1;
    }

    int age(int day, int table) {
        argument(day >= 0 && day <= 146096 && (table == 0 || table == 1));
        return AGES[table][day];
    }

    int table(int table) {
        argument(table == 0 || table == 1);
        int before = tableInUse;
        tableInUse = table;
        return before;
    }

    int type(char character) {
        argument(character >= 33 && character <= 126);
        state(text.length() < 40);
        return text.append(character).length();
    }

    int wipe() {
        int before = text.length();
        text.setLength(0);
        return before;
    }

    int fault() {
        return faultOf(text.toString(), RULE);
    }

    int questionFault() {
        return faultOf(text.toString(), QUESTION);
    }

    private void give(Feast feast, List<Node> rule, Set<Integer> named) {
        feast.rule = rule;
        feast.needs.clear();
        feast.needs.addAll(named);
        text.setLength(0);
    }

    int feast(int rank, boolean moves) {
        argument(rank >= 0 && rank <= 9 && fault() == -1);
        state(feasts.size() < 20);
        List<Node> rule = new Reader(text.toString()).rule();
        Set<Integer> named = new HashSet<>();
        names(rule, true, named);
        state(named.stream().allMatch(this::isFeast));
        Feast feast = new Feast();
        feast.rank = rank;
        feast.moves = moves;
        give(feast, rule, named);
        feasts.add(feast);
        return feasts.size() - 1;
    }

    int mend(int feast) {
        index(isFeast(feast));
        argument(fault() == -1);
        List<Node> rule = new Reader(text.toString()).rule();
        Set<Integer> named = new HashSet<>();
        names(rule, true, named);
        state(named.stream().allMatch(this::isFeast));
        Set<Integer> reached = new HashSet<>(named);
        for (int round = 0; round < 20; round++) {
            for (int one : new ArrayList<>(reached)) {
                reached.addAll(one == feast ? named : feasts.get(one).needs);
            }
        }
        state(!reached.contains(feast));
        give(feasts.get(feast), rule, named);
        return steps(feast);
    }

    int rank(int feast, int rank, boolean moves) {
        index(isFeast(feast));
        argument(rank >= 0 && rank <= 9);
        int before = feasts.get(feast).rank;
        feasts.get(feast).rank = rank;
        feasts.get(feast).moves = moves;
        return before;
    }

    private int countBends() {
        int count = 0;
        for (Feast feast : feasts) {
            count += feast.bends.size();
        }
        return count;
    }

    int dispense(int feast, int year, int days) {
        index(isFeast(feast));
        argument(isYear(year) && (days >= -30 && days <= 30 || days == 99));
        state(countBends() < 30);
        for (int other : feasts.get(feast).bends.keySet()) {
            state(Math.abs(other - year) >= 10);
        }
        feasts.get(feast).bends.put(year, days);
        return countBends();
    }

    int takeBack(int feast, int year) {
        index(isFeast(feast));
        argument(isYear(year));
        state(feasts.get(feast).bends.containsKey(year));
        return feasts.get(feast).bends.remove(year);
    }

    int feasts() {
        return feasts.size();
    }

    private static int told(Integer day) {
        return day == null ? -1 : day;
    }

    int bent(int feast, int year) {
        index(isFeast(feast));
        argument(isYear(year));
        return told(bentDays(year, tableInUse)[feast]);
    }

    int day(int feast, int year) {
        index(isFeast(feast));
        argument(isYear(year));
        return told(places(year)[feast]);
    }

    int clashes(int year) {
        argument(isYear(year));
        Integer[] bent = bentDays(year, tableInUse);
        int count = 0;
        for (int one = 0; one < bent.length; one++) {
            for (int other = 0; other < one; other++) {
                count += bent[one] != null && bent[one].equals(bent[other]) ? 1 : 0;
            }
        }
        return count;
    }

    boolean isMidnight(int feast, int year) {
        index(isFeast(feast));
        argument(isYear(year));
        Integer one = bentDays(year, 0)[feast];
        Integer other = bentDays(year, 1)[feast];
        return one != null && other != null && (one == other + 1 || other == one + 1);
    }

    private List<Integer> stepsOf(int feast) {
        List<Integer> all = new ArrayList<>();
        compile(feasts.get(feast).rule, all);
        return all;
    }

    int steps(int feast) {
        index(isFeast(feast));
        return stepsOf(feast).size();
    }

    int step(int feast, int place) {
        index(isFeast(feast) && place >= 0 && place < stepsOf(feast).size());
        return stepsOf(feast).get(place);
    }

    int cost(int feast, int year) {
        index(isFeast(feast));
        argument(isYear(year));
        return costIn(feast, year);
    }

    int yearCost(int year) {
        argument(isYear(year));
        int sum = 1;
        for (int feast = 0; feast < feasts.size(); feast++) {
            sum += costIn(feast, year);
        }
        return sum;
    }

    int search(int year) {
        argument(isYear(year) && questionFault() == -1);
        Node asked = new Reader(text.toString()).logic(false);
        Set<Integer> named = new HashSet<>();
        names(List.of(asked), false, named);
        state(named.stream().allMatch(this::isFeast));
        question = asked;
        nextYear = year;
        text.setLength(0);
        return yearCost(year);
    }

    int goOn(int cost) {
        argument(cost >= 1 && cost <= 100000);
        state(question != null);
        int left = cost;
        while (nextYear <= 399) {
            int price = yearCost(nextYear);
            if (price > left) {
                return -2;
            }
            left -= price;
            paid += price;
            nextYear++;
            if (claims(question, nextYear - 1, places(nextYear - 1))) {
                return nextYear - 1;
            }
        }
        return -1;
    }

    private boolean claims(Node node, int year, Integer[] placed) {
        int number = node.number;
        switch (node.kind) {
            case '!':
                return !claims(node.parts.get(0), year, placed);
            case '&':
                return claims(node.parts.get(0), year, placed) & claims(node.parts.get(1), year, placed);
            case '|':
                return claims(node.parts.get(0), year, placed) | claims(node.parts.get(1), year, placed);
            case 'C':
                return clashes(year) == 0;
            case 'N':
                return placed[number] == null;
            case 'W':
                Integer on = placed[number / 10];
                return on != null && weekdayAt(year, on) == number % 10;
            case 'D':
                Integer at = placed[number / 10000];
                return at != null && dateAt(year, at) == number % 10000;
            default:
                Integer first = placed[number / 100];
                Integer second = placed[number % 100];
                return first != null && second != null && first < second;
        }
    }

    long spent() {
        return paid;
    }

    int bells(int parish, int bells) {
        index(parish >= 0 && parish < 6);
        argument(bells >= 0 && bells <= 6);
        int before = bellCounts[parish];
        bellCounts[parish] = bells;
        return before;
    }

    int ringer(int parish, int rest) {
        index(parish >= 0 && parish < 6);
        argument(rest >= 0 && rest <= 6);
        state(ringers.size() < 24);
        ringers.add(new int[] {parish, rest});
        return ringers.size() - 1;
    }

    /** Who rings, as rows of feast, parish, bell and ringer. */
    private List<int[]> ringing(int year) {
        Integer[] placed = places(year);
        Integer[] trueDays = bentDays(year, 0);
        Integer[] bookDays = bentDays(year, 1);
        List<int[]> rows = new ArrayList<>();
        Map<Integer, Integer> lastDays = new HashMap<>();
        Map<Integer, Integer> counts = new HashMap<>();
        for (int day = 0; day < lengthOf(year); day++) {
            for (int feast = 0; feast < placed.length; feast++) {
                if (placed[feast] == null || placed[feast] != day) {
                    continue;
                }
                boolean late = trueDays[feast] != null && bookDays[feast] != null
                        && Math.abs(trueDays[feast] - bookDays[feast]) == 1;
                Set<Integer> busy = new HashSet<>();
                for (int parish = 0; parish < 6; parish++) {
                    for (int bell = 0; bell < Math.min(feasts.get(feast).rank, bellCounts[parish]); bell++) {
                        int best = -1;
                        for (int ringer = ringers.size() - 1; ringer >= 0; ringer--) {
                            boolean rested = !lastDays.containsKey(ringer)
                                    || day - lastDays.get(ringer) > ringers.get(ringer)[1];
                            boolean free = ringers.get(ringer)[0] == parish && rested && !busy.contains(ringer);
                            if (free && (best < 0 || counts.getOrDefault(ringer, 0) <= counts.getOrDefault(best, 0))) {
                                best = ringer;
                            }
                        }
                        rows.add(new int[] {feast, parish, bell, best});
                        if (best >= 0) {
                            busy.add(best);
                            counts.merge(best, 1, Integer::sum);
                            lastDays.put(best, late ? day + 1 : day);
                        }
                    }
                }
            }
        }
        return rows;
    }

    int rings(int feast, int year, int parish, int bell) {
        index(isFeast(feast) && parish >= 0 && parish < 6);
        argument(isYear(year) && bell >= 0 && bell <= 5);
        for (int[] row : ringing(year)) {
            if (row[0] == feast && row[1] == parish && row[2] == bell) {
                return row[3];
            }
        }
        return -1;
    }

    int silent(int year) {
        argument(isYear(year));
        return (int) ringing(year).stream().filter(row -> row[3] == -1).count();
    }

    int peals(int ringer, int year) {
        index(ringer >= 0 && ringer < ringers.size());
        argument(isYear(year));
        return (int) ringing(year).stream().filter(row -> row[3] == ringer).count();
    }
}
