/** A compiler of almanacs, its solver and its church bells. */
public final class AlmanacLoom {
    public static final int NONE = -1;
    public static final int PAUSED = -2;
    public static final int TRUE_MOON = 0, BOOK_MOON = 1;

    private static final int LAST_YEAR = 399;
    private static final int LAST_DAY_OF_YEAR = 365;
    private static final int LAST_GREAT_NUMBER = 146096;
    private static final int HIGHEST_RANK = 9;
    private static final int FARTHEST_BEND = 30;
    private static final int DEAREST_SEARCH = 100000;
    private static final int LONGEST_REST = 6;

    private final Text text;
    private final Parser parser;
    private final Almanac almanac;
    private final YearBook book;
    private final YearBook otherBook;
    private final PlainBook plainBook;
    private final Solver solver;
    private final Belfry belfry;
    private int tableInUse;

    public AlmanacLoom() {
        text = new Text();
        parser = new Parser();
        almanac = new Almanac();
        book = new YearBook(almanac);
        otherBook = new YearBook(almanac);
        plainBook = new PlainBook(almanac);
        solver = new Solver();
        belfry = new Belfry();
        tableInUse = TRUE_MOON;
    }

    // ---- the calendar

    public int begin(int year) throws IllegalArgumentException {
        checkYear(year);
        return Calendar.firstDayOf(year);
    }

    public int date(int year, int day) throws IllegalArgumentException {
        checkYear(year);
        if (day < 0 || day > LAST_DAY_OF_YEAR) {
            throw new IllegalArgumentException("the day is not 0 to 365");
        }
        return Calendar.dateOf(year, day);
    }

    public int age(int day, int table) throws IllegalArgumentException {
        if (day < 0 || day > LAST_GREAT_NUMBER) {
            throw new IllegalArgumentException("the day is not 0 to 146096");
        }
        checkTable(table);
        return Calendar.ageOf(day, table);
    }

    public int table(int table) throws IllegalArgumentException {
        checkTable(table);
        int before = tableInUse;
        tableInUse = table;
        return before;
    }

    // ---- texts

    public int type(char character) throws IllegalArgumentException, IllegalStateException {
        if (character < 33 || character > 126) {
            throw new IllegalArgumentException("the character has no code of 33 to 126");
        }
        if (!text.append(character)) {
            throw new IllegalStateException("the text has 40 characters");
        }
        return text.length();
    }

    public int wipe() {
        int before = text.length();
        text.clear();
        return before;
    }

    public int fault() {
        return parser.readRule(text);
    }

    public int questionFault() {
        return parser.readQuestion(text);
    }

    // ---- feasts

    public int feast(int rank, boolean moves) throws IllegalArgumentException, IllegalStateException {
        checkRank(rank);
        if (parser.readRule(text) != NONE) {
            throw new IllegalArgumentException("the text is no rule");
        }
        if (almanac.isFull()) {
            throw new IllegalStateException("there are 20 feasts");
        }
        checkNames();
        int number = almanac.add(text, parser.code());
        almanac.setRank(number, rank, moves);
        text.clear();
        return number;
    }

    public int mend(int feast) throws IndexOutOfBoundsException, IllegalArgumentException, IllegalStateException {
        checkFeast(feast);
        if (parser.readRule(text) != NONE) {
            throw new IllegalArgumentException("the text is no rule");
        }
        checkNames();
        if (!almanac.rewrite(feast, text, parser.code())) {
            throw new IllegalStateException("a feast would need itself");
        }
        text.clear();
        return almanac.code(feast).size();
    }

    public int rank(int feast, int rank, boolean moves) throws IndexOutOfBoundsException, IllegalArgumentException {
        checkFeast(feast);
        checkRank(rank);
        int before = almanac.rankOf(feast);
        almanac.setRank(feast, rank, moves);
        return before;
    }

    public int dispense(int feast, int year, int days)
            throws IndexOutOfBoundsException, IllegalArgumentException, IllegalStateException {
        checkFeast(feast);
        checkYear(year);
        if (days != Almanac.TAKEN_AWAY && (days < -FARTHEST_BEND || days > FARTHEST_BEND)) {
            throw new IllegalArgumentException("the days are not -30 to 30, and not 99");
        }
        if (!almanac.grant(feast, year, days)) {
            throw new IllegalStateException("there are 30 dispensations, or one too near");
        }
        return almanac.dispensations();
    }

    public int takeBack(int feast, int year)
            throws IndexOutOfBoundsException, IllegalArgumentException, IllegalStateException {
        checkFeast(feast);
        checkYear(year);
        int place = almanac.dispensationFor(feast, year);
        if (place == NONE) {
            throw new IllegalStateException("there is no such dispensation");
        }
        return almanac.revoke(place);
    }

    public int feasts() {
        return almanac.size();
    }

    public int bent(int feast, int year) throws IndexOutOfBoundsException, IllegalArgumentException {
        checkFeast(feast);
        checkYear(year);
        book.reckon(year, tableInUse);
        return book.bentDay(feast);
    }

    public int day(int feast, int year) throws IndexOutOfBoundsException, IllegalArgumentException {
        checkFeast(feast);
        checkYear(year);
        book.reckon(year, tableInUse);
        book.placeAll();
        return book.placedDay(feast);
    }

    public int dayByDays(int feast, int year) throws IndexOutOfBoundsException, IllegalArgumentException {
        checkFeast(feast);
        checkYear(year);
        plainBook.readAll(year, tableInUse);
        plainBook.goThroughDays(year);
        return plainBook.placedDay(feast);
    }

    public int clashes(int year) throws IllegalArgumentException {
        checkYear(year);
        book.reckon(year, tableInUse);
        return book.countClashes();
    }

    public boolean isMidnight(int feast, int year) throws IndexOutOfBoundsException, IllegalArgumentException {
        checkFeast(feast);
        checkYear(year);
        book.reckon(year, tableInUse);
        otherBook.reckon(year, otherTable());
        return book.isNextTo(otherBook, feast);
    }

    // ---- steps and costs

    public int steps(int feast) throws IndexOutOfBoundsException {
        checkFeast(feast);
        return almanac.code(feast).size();
    }

    public int step(int feast, int place) throws IndexOutOfBoundsException {
        checkFeast(feast);
        Code code = almanac.code(feast);
        if (place < 0 || place >= code.size()) {
            throw new IndexOutOfBoundsException("there is no such step");
        }
        return 10000 * code.kindAt(place) + code.argumentAt(place);
    }

    public int cost(int feast, int year) throws IndexOutOfBoundsException, IllegalArgumentException {
        checkFeast(feast);
        checkYear(year);
        book.reckon(year, tableInUse);
        return book.costOf(feast);
    }

    public int yearCost(int year) throws IllegalArgumentException {
        checkYear(year);
        book.reckon(year, tableInUse);
        return book.costOfAll();
    }

    // ---- the solver

    public int search(int year) throws IllegalArgumentException, IllegalStateException {
        checkYear(year);
        if (parser.readQuestion(text) != NONE) {
            throw new IllegalArgumentException("the text is no question");
        }
        checkNames();
        solver.start(parser.code(), year);
        text.clear();
        book.reckon(year, tableInUse);
        return book.costOfAll();
    }

    public int goOn(int cost) throws IllegalArgumentException, IllegalStateException {
        if (cost < 1 || cost > DEAREST_SEARCH) {
            throw new IllegalArgumentException("the cost is not 1 to 100000");
        }
        if (!solver.isStarted()) {
            throw new IllegalStateException("no search was begun");
        }
        return solver.look(cost, book, tableInUse);
    }

    public long spent() {
        return solver.paid();
    }

    // ---- bells

    public int bells(int parish, int bells) throws IndexOutOfBoundsException, IllegalArgumentException {
        checkParish(parish);
        if (bells < 0 || bells > Belfry.MOST_BELLS) {
            throw new IllegalArgumentException("the bells are not 0 to 6");
        }
        return belfry.hang(parish, bells);
    }

    public int ringer(int parish, int rest)
            throws IndexOutOfBoundsException, IllegalArgumentException, IllegalStateException {
        checkParish(parish);
        if (rest < 0 || rest > LONGEST_REST) {
            throw new IllegalArgumentException("the rest is not 0 to 6");
        }
        int number = belfry.hire(parish, rest);
        if (number == NONE) {
            throw new IllegalStateException("there are 24 ringers");
        }
        return number;
    }

    public int rings(int feast, int year, int parish, int bell)
            throws IndexOutOfBoundsException, IllegalArgumentException {
        checkFeast(feast);
        checkParish(parish);
        checkYear(year);
        if (bell < 0 || bell >= Belfry.MOST_BELLS) {
            throw new IllegalArgumentException("the bell is not 0 to 5");
        }
        ringYear(year);
        return belfry.ringerAt(feast, parish, bell);
    }

    public int silent(int year) throws IllegalArgumentException {
        checkYear(year);
        ringYear(year);
        return belfry.silences();
    }

    public int peals(int ringer, int year) throws IndexOutOfBoundsException, IllegalArgumentException {
        if (ringer < 0 || ringer >= belfry.size()) {
            throw new IndexOutOfBoundsException("there is no such ringer");
        }
        checkYear(year);
        ringYear(year);
        return belfry.countOf(ringer);
    }

    // ---- what several calls need

    private void ringYear(int year) {
        book.reckon(year, tableInUse);
        otherBook.reckon(year, otherTable());
        book.placeAll();
        belfry.ringYear(almanac, book, otherBook);
    }

    private int otherTable() {
        return tableInUse == TRUE_MOON ? BOOK_MOON : TRUE_MOON;
    }

    private static void checkYear(int year) {
        if (year < 0 || year > LAST_YEAR) {
            throw new IllegalArgumentException("the year is not 0 to 399");
        }
    }

    private static void checkTable(int table) {
        if (table != TRUE_MOON && table != BOOK_MOON) {
            throw new IllegalArgumentException("there is no such table");
        }
    }

    private static void checkRank(int rank) {
        if (rank < 0 || rank > HIGHEST_RANK) {
            throw new IllegalArgumentException("the rank is not 0 to 9");
        }
    }

    private static void checkParish(int parish) {
        if (parish < 0 || parish >= Belfry.PARISHES) {
            throw new IndexOutOfBoundsException("there is no such parish");
        }
    }

    private void checkFeast(int feast) {
        if (feast < 0 || feast >= almanac.size()) {
            throw new IndexOutOfBoundsException("there is no such feast");
        }
    }

    private void checkNames() {
        if (parser.code().namesBeyond(almanac.size())) {
            throw new IllegalStateException("a feast is named that there is not");
        }
    }

    /** Years, dates, weekdays and moons. A date is 100 times the month, and the day of the month. */
    private static final class Calendar {
        // of a year that is no leap year; the last one is where the year ends
        private static final int[] MONTH_STARTS = {0, 31, 59, 90, 120, 151, 181, 212, 243, 273, 304, 334, 365};
        static final int MONTHS = 12;

        static boolean isLeap(int year) {
            return year % 4 == 0 && year % 100 != 0 || year % 400 == 0;
        }

        static int lengthOf(int year) {
            return isLeap(year) ? 366 : 365;
        }

        static int firstDayOf(int year) {
            int leapsBefore = (year + 3) / 4 - (year + 99) / 100 + (year + 399) / 400;
            return 365 * year + leapsBefore;
        }

        /** The day of the year on which a month begins; the year's length for the month 13. */
        static int monthStart(boolean leap, int month) {
            if (month < 1 || month > MONTHS + 1) {
                return NONE;
            }
            return MONTH_STARTS[month - 1] + (leap && month > 2 ? 1 : 0);
        }

        static int mostDaysOf(int month) {
            return monthStart(true, month + 1) - monthStart(true, month);
        }

        static int dateOf(int year, int day) {
            boolean leap = isLeap(year);
            if (day >= monthStart(leap, MONTHS + 1)) {
                return NONE;
            }
            for (int month = MONTHS; month >= 1; month--) {
                int start = monthStart(leap, month);
                if (day >= start) {
                    return 100 * month + day - start + 1;
                }
            }
            return NONE;
        }

        static int dayOf(boolean leap, int date) {
            int month = date / 100;
            int day = monthStart(leap, month) + date % 100 - 1;
            return day < monthStart(leap, month + 1) ? day : NONE;
        }

        static int weekdayOf(int greatNumber) {
            return Math.floorMod(greatNumber + 6, 7);
        }

        static int ageOf(int greatNumber, int table) {
            return greatNumber - newMoon(lastMoon(greatNumber, table), table);
        }

        static int newMoon(int moon, int table) {
            return table == TRUE_MOON ? Math.floorDiv(945 * moon, 32) + 5 : Math.floorDiv(6940 * moon, 235) + 6;
        }

        // floor(p * k / q) <= d just if p * k < q * (d + 1), so the greatest such k needs no search
        static int lastMoon(int greatNumber, int table) {
            return table == TRUE_MOON
                    ? Math.floorDiv(32 * (greatNumber - 5 + 1) - 1, 945)
                    : Math.floorDiv(235 * (greatNumber - 6 + 1) - 1, 6940);
        }
    }

    /** Characters in a row that is made once. */
    private static final class Text {
        static final int MOST = 40;
        // no character that can be typed has this code
        static final char END = 0;

        private final char[] characters = new char[MOST];
        private int length;

        boolean append(char character) {
            if (length >= MOST) {
                return false;
            }
            characters[length] = character;
            length++;
            return true;
        }

        void clear() {
            length = 0;
        }

        int length() {
            return length;
        }

        char at(int place) {
            return place >= 0 && place < length ? characters[place] : END;
        }

        void copyFrom(Text other) {
            System.arraycopy(other.characters, 0, characters, 0, MOST);
            length = other.length;
        }
    }

    /** The steps of a rule, or of a question, with the feasts that they name. */
    private static final class Code {
        static final int DATE = 1, NTH_WEEKDAY = 2, LAST_WEEKDAY = 3, FEAST = 4, DAYS = 5;
        static final int BEHIND = 6, AHEAD = 7, NOT_AHEAD = 8, NOT_BEHIND = 9, FULL_MOON = 10, NEW_MOON = 11;
        static final int NO_DAY = 12, ON_WEEKDAY = 13, LEAP_YEAR = 14, ON_FEAST = 15, BEFORE_DATE = 16;
        static final int NOT = 17, JUMP = 18, JUMP_UNLESS = 19, JUMP_IF = 20;
        // a question's own kinds, which no call tells
        static final int NO_CLASH = 21, PLACED_ON_DATE = 22, PLACED_ON_WEEKDAY = 23, NOT_PLACED = 24, IN_ORDER = 25;
        static final int NO_DAYS = 5000;

        // each character of a text makes at most one step
        private static final int MOST = Text.MOST;

        private final int[] kinds = new int[MOST];
        private final int[] arguments = new int[MOST];
        private int size;
        private int named;

        void clear() {
            size = 0;
            named = 0;
        }

        int size() {
            return size;
        }

        boolean add(int kind, int argument) {
            if (size >= MOST) {
                return false;
            }
            kinds[size] = kind;
            arguments[size] = argument;
            size++;
            return true;
        }

        void name(int feast) {
            named |= 1 << feast;
        }

        int named() {
            return named;
        }

        boolean namesBeyond(int feasts) {
            return named >>> feasts != 0;
        }

        /** Lets the jump at a place lead to the step that comes next. */
        boolean landHere(int place) {
            if (place < 0 || place >= size) {
                return false;
            }
            arguments[place] = size;
            return true;
        }

        int kindAt(int place) {
            return place >= 0 && place < size ? kinds[place] : 0;
        }

        int argumentAt(int place) {
            return place >= 0 && place < size ? arguments[place] : 0;
        }

        /** The place behind the one at which this step stands. */
        int placeAfter(int place, boolean holds) {
            int kind = kindAt(place);
            boolean jumps = kind == JUMP || kind == JUMP_UNLESS && !holds || kind == JUMP_IF && holds;
            return jumps ? argumentAt(place) : place + 1;
        }

        void copyFrom(Code other) {
            System.arraycopy(other.kinds, 0, kinds, 0, MOST);
            System.arraycopy(other.arguments, 0, arguments, 0, MOST);
            size = other.size;
            named = other.named;
        }
    }

    /**
     * Reads a text as a rule or as a question, and compiles it. Every method that takes something tells whether it
     * could; where one could not, the reading rests on the character at fault.
     */
    private static final class Parser {
        // a text of 40 characters can not nest deeper
        private static final int DEEPEST = Text.MOST + 1;
        private static final int LAST_FEAST = 19;
        private static final int MOST_DAYS = 366;

        private final Code code = new Code();
        private Text text;
        private int place;
        private int value;
        private boolean readsRule;

        Parser() {
            text = new Text();
        }

        Code code() {
            return code;
        }

        int readRule(Text rule) {
            startOn(rule, true);
            return takesStart() && takesSteps(0) && place == text.length() ? NONE : place;
        }

        int readQuestion(Text question) {
            startOn(question, false);
            return takesLogic(0) && place == text.length() ? NONE : place;
        }

        private void startOn(Text source, boolean isRule) {
            text = source;
            readsRule = isRule;
            place = 0;
            code.clear();
        }

        private boolean takesStart() {
            switch (text.at(place)) {
                case 'D':
                    return takesPart(Code.DATE, "md");
                case 'N':
                    return takesPart(Code.NTH_WEEKDAY, "nwm");
                case 'L':
                    return takesPart(Code.LAST_WEEKDAY, "wm");
                case 'F':
                    return takesPart(Code.FEAST, "f");
                default:
                    return false;
            }
        }

        private boolean takesSteps(int depth) {
            boolean taken = depth <= DEEPEST;
            for (int i = 0; i < Text.MOST && taken; i++) {
                switch (text.at(place)) {
                    case '+':
                    case '-':
                        taken = takesDays();
                        break;
                    case '>':
                        taken = takesPart(Code.BEHIND, "w");
                        break;
                    case '<':
                        taken = takesPart(Code.AHEAD, "w");
                        break;
                    case ']':
                        taken = takesPart(Code.NOT_AHEAD, "w");
                        break;
                    case '[':
                        taken = takesPart(Code.NOT_BEHIND, "w");
                        break;
                    case 'O':
                        taken = takesPart(Code.FULL_MOON, "");
                        break;
                    case 'Q':
                        taken = takesPart(Code.NEW_MOON, "");
                        break;
                    case 'X':
                        taken = takesPart(Code.NO_DAY, "");
                        break;
                    case '?':
                        taken = takesBranch(depth + 1);
                        break;
                    default:
                        return true;
                }
            }
            return taken;
        }

        private boolean takesDays() {
            int sum = 0;
            for (int i = 0; i < Text.MOST; i++) {
                char sign = text.at(place);
                if (sign != '+' && sign != '-') {
                    break;
                }
                place++;
                if (!takesDayCount()) {
                    return false;
                }
                sum += sign == '+' ? value : -value;
            }
            return sum == 0 || code.add(Code.DAYS, Code.NO_DAYS + sum);
        }

        // a digit that would make the number too great is left: no step begins with it, so it is the fault
        private boolean takesDayCount() {
            if (!takesDigit(0, 9)) {
                return false;
            }
            int number = value;
            for (int i = 0; i < 2; i++) {
                int highest = Math.min(MOST_DAYS - 10 * number, 9);
                if (!takesDigit(0, highest)) {
                    break;
                }
                number = 10 * number + value;
            }
            value = number;
            return true;
        }

        private boolean takesBranch(int depth) {
            place++;
            if (!takesLogic(depth)) {
                return false;
            }
            int overThen = code.size();
            if (!code.add(Code.JUMP_UNLESS, 0) || !takes('{') || !takesSteps(depth) || !takes('}')) {
                return false;
            }
            if (!takes('{')) {
                return code.landHere(overThen);
            }
            int overElse = code.size();
            return code.add(Code.JUMP, 0) && code.landHere(overThen)
                    && takesSteps(depth) && takes('}') && code.landHere(overElse);
        }

        private boolean takesLogic(int depth) {
            if (depth > DEEPEST) {
                return false;
            }
            switch (text.at(place)) {
                case '!':
                    place++;
                    return takesLogic(depth + 1) && code.add(Code.NOT, 0);
                case '(':
                    return takesPair(depth + 1);
                case 'W':
                    return readsRule ? takesPart(Code.ON_WEEKDAY, "w") : takesPart(Code.PLACED_ON_WEEKDAY, "fw");
                case 'Y':
                    return readsRule && takesPart(Code.LEAP_YEAR, "");
                case 'A':
                    return readsRule && takesPart(Code.ON_FEAST, "f");
                case 'E':
                    return readsRule && takesPart(Code.BEFORE_DATE, "md");
                case 'C':
                    return !readsRule && takesPart(Code.NO_CLASH, "");
                case 'D':
                    return !readsRule && takesPart(Code.PLACED_ON_DATE, "fmd");
                case 'N':
                    return !readsRule && takesPart(Code.NOT_PLACED, "f");
                case 'B':
                    return !readsRule && takesPart(Code.IN_ORDER, "ff");
                default:
                    return false;
            }
        }

        private boolean takesPair(int depth) {
            place++;
            if (!takesLogic(depth)) {
                return false;
            }
            boolean both = takes('&');
            if (!both && !takes('|')) {
                return false;
            }
            int overSecond = code.size();
            return code.add(both ? Code.JUMP_UNLESS : Code.JUMP_IF, 0)
                    && takesLogic(depth) && takes(')') && code.landHere(overSecond);
        }

        /** Takes a letter and the fields behind it; the digits of all of them are the argument of its step. */
        private boolean takesPart(int kind, String fields) {
            place++;
            int argument = 0;
            for (int i = 0; i < fields.length(); i++) {
                char field = fields.charAt(i);
                boolean hasOneDigit = field == 'n' || field == 'w';
                if (!(hasOneDigit ? takesOneDigit(field) : takesTwoDigits(field))) {
                    return false;
                }
                argument = (hasOneDigit ? 10 : 100) * argument + value;
            }
            return code.add(kind, argument);
        }

        private boolean takesOneDigit(char field) {
            return field == 'n' ? takesDigit(1, 5) : takesDigit(0, 6);
        }

        // the day d of a month follows that month at once, whose number is the value then
        private boolean takesTwoDigits(char field) {
            int lowest = field == 'f' ? 0 : 1;
            int highest = field == 'f' ? LAST_FEAST : field == 'm' ? Calendar.MONTHS : Calendar.mostDaysOf(value);
            if (!takesDigit(0, highest / 10)) {
                return false;
            }
            int tens = value;
            if (!takesDigit(tens == 0 ? lowest : 0, tens == highest / 10 ? highest % 10 : 9)) {
                return false;
            }
            value += 10 * tens;
            if (field == 'f') {
                code.name(value);
            }
            return true;
        }

        private boolean takesDigit(int lowest, int highest) {
            int digit = text.at(place) - '0';
            if (digit < lowest || digit > highest) {
                return false;
            }
            value = digit;
            place++;
            return true;
        }

        private boolean takes(char character) {
            if (text.at(place) != character) {
                return false;
            }
            place++;
            return true;
        }
    }

    /** A rule as it is written and as it is compiled, with the rank of its feast. */
    private static final class Feast {
        private final Text rule = new Text();
        private final Code code = new Code();
        private int rank;
        private boolean moves;
    }

    /** The feasts, an order in which each stands behind those that it needs, and the dispensations. */
    private static final class Almanac {
        static final int MOST_FEASTS = 20;
        static final int TAKEN_AWAY = 99;
        private static final int MOST_DISPENSATIONS = 30;
        private static final int YEARS_APART = 10;

        private final Feast[] rows = new Feast[MOST_FEASTS];
        private final int[] order = new int[MOST_FEASTS];
        private final int[] draftOrder = new int[MOST_FEASTS];
        private int size;

        private final int[] bentFeasts = new int[MOST_DISPENSATIONS];
        private final int[] bentYears = new int[MOST_DISPENSATIONS];
        private final int[] bentBy = new int[MOST_DISPENSATIONS];
        private int dispensations;

        Almanac() {
            for (int i = 0; i < MOST_FEASTS; i++) {
                rows[i] = new Feast();
            }
        }

        int size() {
            return size;
        }

        boolean isFull() {
            return size >= MOST_FEASTS;
        }

        Code code(int feast) {
            return rows[feast].code;
        }

        Text rule(int feast) {
            return rows[feast].rule;
        }

        int rankOf(int feast) {
            return rows[feast].rank;
        }

        boolean canMove(int feast) {
            return rows[feast].moves;
        }

        void setRank(int feast, int rank, boolean moves) {
            rows[feast].rank = rank;
            rows[feast].moves = moves;
        }

        // a new feast is needed by none yet, so the end of the order is right for it
        int add(Text rule, Code code) {
            int number = size;
            rows[number].rule.copyFrom(rule);
            rows[number].code.copyFrom(code);
            order[number] = number;
            size++;
            return number;
        }

        /** Gives a feast another rule, if no feast needs itself by that. */
        boolean rewrite(int feast, Text rule, Code code) {
            if (!draftOrderWith(feast, code.named())) {
                return false;
            }
            System.arraycopy(draftOrder, 0, order, 0, size);
            rows[feast].rule.copyFrom(rule);
            rows[feast].code.copyFrom(code);
            return true;
        }

        int inOrder(int place) {
            return order[place];
        }

        private boolean draftOrderWith(int mended, int named) {
            int done = 0;
            for (int place = 0; place < size; place++) {
                int next = firstReady(done, mended, named);
                if (next == NONE) {
                    return false;
                }
                draftOrder[place] = next;
                done |= 1 << next;
            }
            return true;
        }

        private int firstReady(int done, int mended, int named) {
            for (int feast = 0; feast < size; feast++) {
                int needed = feast == mended ? named : rows[feast].code.named();
                boolean isDone = (done >>> feast & 1) != 0;
                if (!isDone && (needed & ~done) == 0) {
                    return feast;
                }
            }
            return NONE;
        }

        int dispensations() {
            return dispensations;
        }

        boolean grant(int feast, int year, int days) {
            if (dispensations >= MOST_DISPENSATIONS || hasOneNear(feast, year)) {
                return false;
            }
            bentFeasts[dispensations] = feast;
            bentYears[dispensations] = year;
            bentBy[dispensations] = days;
            dispensations++;
            return true;
        }

        private boolean hasOneNear(int feast, int year) {
            for (int i = 0; i < dispensations; i++) {
                if (bentFeasts[i] == feast && Math.abs(bentYears[i] - year) < YEARS_APART) {
                    return true;
                }
            }
            return false;
        }

        int dispensationFor(int feast, int year) {
            for (int i = 0; i < dispensations; i++) {
                if (bentFeasts[i] == feast && bentYears[i] == year) {
                    return i;
                }
            }
            return NONE;
        }

        /** Takes the dispensation at a place away; the last one, whose place means nothing, fills the gap. */
        int revoke(int place) {
            int days = bentBy[place];
            dispensations--;
            bentFeasts[place] = bentFeasts[dispensations];
            bentYears[place] = bentYears[dispensations];
            bentBy[place] = bentBy[dispensations];
            return days;
        }

        /** The bent day of a feast whose rule tells this day. */
        int bend(int feast, int year, int day) {
            int dispensation = dispensationFor(feast, year);
            if (day == NONE || dispensation == NONE) {
                return day;
            }
            if (bentBy[dispensation] == TAKEN_AWAY) {
                return NONE;
            }
            int later = day + bentBy[dispensation];
            return later >= 0 && later < Calendar.lengthOf(year) ? later : NONE;
        }
    }

    /** A day of a year, or none, which is moved and asked as rules tell. */
    private static final class Walk {
        private int table;
        private int length;
        private boolean leap;
        private int firstDay;
        private int firstWeekday;
        private int today;

        void enter(int year, int tableToUse) {
            table = tableToUse;
            length = Calendar.lengthOf(year);
            leap = Calendar.isLeap(year);
            firstDay = Calendar.firstDayOf(year);
            firstWeekday = Calendar.weekdayOf(firstDay);
            today = NONE;
        }

        int today() {
            return today;
        }

        void toNone() {
            today = NONE;
        }

        void toDay(int day) {
            today = day >= 0 && day < length ? day : NONE;
        }

        void toDate(int date) {
            toDay(Calendar.dayOf(leap, date));
        }

        void toNthWeekday(int n, int weekday, int month) {
            int start = Calendar.monthStart(leap, month);
            int wanted = start + daysUntil(start, weekday) + 7 * (n - 1);
            toDay(wanted < Calendar.monthStart(leap, month + 1) ? wanted : NONE);
        }

        void toLastWeekday(int weekday, int month) {
            int last = Calendar.monthStart(leap, month + 1) - 1;
            toDay(last - daysSince(last, weekday));
        }

        void toLater(int days) {
            if (today != NONE) {
                toDay(today + days);
            }
        }

        void toWeekdayBehind(int weekday) {
            toLater(1 + daysUntil(today + 1, weekday));
        }

        void toWeekdayAhead(int weekday) {
            toLater(-1 - daysSince(today - 1, weekday));
        }

        void toWeekdayNotAhead(int weekday) {
            toLater(daysUntil(today, weekday));
        }

        void toWeekdayNotBehind(int weekday) {
            toLater(-daysSince(today, weekday));
        }

        /** Goes to the first day that is not ahead of today, and on which the moon has that age. */
        void toMoonOfAge(int age) {
            if (today == NONE) {
                return;
            }
            int moon = Calendar.lastMoon(firstDay + today, table);
            int wanted = Calendar.newMoon(moon, table) + age - firstDay;
            toDay(wanted >= today ? wanted : Calendar.newMoon(moon + 1, table) + age - firstDay);
        }

        boolean isOnWeekday(int weekday) {
            return today != NONE && daysUntil(today, weekday) == 0;
        }

        boolean isOnDay(int day) {
            return today != NONE && today == day;
        }

        // that date's day of the month is counted on from its month's start, so 0229 works in all years
        boolean isBeforeDate(int date) {
            return today != NONE && today < Calendar.monthStart(leap, date / 100) + date % 100 - 1;
        }

        boolean isInLeapYear() {
            return leap;
        }

        private int daysUntil(int day, int weekday) {
            return Math.floorMod(weekday - firstWeekday - day, 7);
        }

        private int daysSince(int day, int weekday) {
            return Math.floorMod(firstWeekday + day - weekday, 7);
        }
    }

    /** The bent days, costs and places of all feasts in one year, found by their steps. */
    private static final class YearBook {
        static final int FULL_MOON_AGE = 14;
        static final int FARTHEST_MOVE = 20;
        private static final int MOST_DAYS = 366;
        // by the kinds of steps, from 0 on; there is no kind 0
        private static final int[] STEP_COSTS = {0, 1, 3, 3, 2, 1, 2, 2, 2, 2, 6, 6, 1, 1, 1, 2, 1, 1, 1, 1, 1};

        private final Almanac almanac;
        private final Walk walk = new Walk();
        private final int[] bentDays = new int[Almanac.MOST_FEASTS];
        private final int[] costs = new int[Almanac.MOST_FEASTS];
        private final int[] placedDays = new int[Almanac.MOST_FEASTS];
        private final int[] feastsOn = new int[MOST_DAYS];
        private int year;
        private int length;

        YearBook(Almanac almanac) {
            this.almanac = almanac;
        }

        void reckon(int yearToReckon, int table) {
            year = yearToReckon;
            length = Calendar.lengthOf(year);
            for (int i = 0; i < almanac.size(); i++) {
                int feast = almanac.inOrder(i);
                walk.enter(year, table);
                costs[feast] = goThrough(almanac.code(feast));
                bentDays[feast] = almanac.bend(feast, year, walk.today());
            }
        }

        /** Walks as the steps tell, and returns what that costs. All jumps lead onwards, so no step is met twice. */
        private int goThrough(Code code) {
            int cost = 0;
            boolean holds = false;
            int place = 0;
            for (int met = 0; met < code.size() && place < code.size(); met++) {
                int kind = code.kindAt(place);
                int argument = code.argumentAt(place);
                cost += kind >= 0 && kind < STEP_COSTS.length ? STEP_COSTS[kind] : 0;
                if (kind == Code.NOT) {
                    holds = !holds;
                } else if (kind >= Code.ON_WEEKDAY && kind <= Code.BEFORE_DATE) {
                    holds = conditionHolds(kind, argument);
                } else if (kind <= Code.FEAST) {
                    goToStart(kind, argument);
                } else {
                    move(kind, argument);
                }
                place = code.placeAfter(place, holds);
            }
            return cost;
        }

        private void goToStart(int kind, int argument) {
            switch (kind) {
                case Code.DATE:
                    walk.toDate(argument);
                    break;
                case Code.NTH_WEEKDAY:
                    walk.toNthWeekday(argument / 1000, argument / 100 % 10, argument % 100);
                    break;
                case Code.LAST_WEEKDAY:
                    walk.toLastWeekday(argument / 100, argument % 100);
                    break;
                default:
                    walk.toDay(bentDay(argument));
                    break;
            }
        }

        private void move(int kind, int argument) {
            switch (kind) {
                case Code.DAYS:
                    walk.toLater(argument - Code.NO_DAYS);
                    break;
                case Code.BEHIND:
                    walk.toWeekdayBehind(argument);
                    break;
                case Code.AHEAD:
                    walk.toWeekdayAhead(argument);
                    break;
                case Code.NOT_AHEAD:
                    walk.toWeekdayNotAhead(argument);
                    break;
                case Code.NOT_BEHIND:
                    walk.toWeekdayNotBehind(argument);
                    break;
                case Code.FULL_MOON:
                    walk.toMoonOfAge(FULL_MOON_AGE);
                    break;
                case Code.NEW_MOON:
                    walk.toMoonOfAge(0);
                    break;
                case Code.NO_DAY:
                    walk.toNone();
                    break;
                default:
                    break;
            }
        }

        private boolean conditionHolds(int kind, int argument) {
            switch (kind) {
                case Code.ON_WEEKDAY:
                    return walk.isOnWeekday(argument);
                case Code.LEAP_YEAR:
                    return walk.isInLeapYear();
                case Code.ON_FEAST:
                    return walk.isOnDay(bentDay(argument));
                default:
                    return walk.isBeforeDate(argument);
            }
        }

        int bentDay(int feast) {
            return feast >= 0 && feast < bentDays.length ? bentDays[feast] : NONE;
        }

        int costOf(int feast) {
            return costs[feast];
        }

        int costOfAll() {
            int sum = 1;
            for (int feast = 0; feast < almanac.size(); feast++) {
                sum += costs[feast];
            }
            return sum;
        }

        int countClashes() {
            int count = 0;
            for (int one = 0; one < almanac.size(); one++) {
                for (int other = one + 1; other < almanac.size(); other++) {
                    if (bentDays[one] != NONE && bentDays[one] == bentDays[other]) {
                        count++;
                    }
                }
            }
            return count;
        }

        boolean isNextTo(YearBook other, int feast) {
            int here = bentDay(feast);
            int there = other.bentDay(feast);
            return here != NONE && there != NONE && Math.abs(here - there) == 1;
        }

        void placeAll() {
            for (int day = 0; day < MOST_DAYS; day++) {
                feastsOn[day] = NONE;
            }
            for (int rank = HIGHEST_RANK; rank >= 0; rank--) {
                for (int feast = 0; feast < almanac.size(); feast++) {
                    if (almanac.rankOf(feast) == rank) {
                        place(feast);
                    }
                }
            }
        }

        private void place(int feast) {
            int wanted = bentDays[feast];
            placedDays[feast] = NONE;
            if (wanted == NONE) {
                return;
            }
            int last = almanac.canMove(feast) ? wanted + FARTHEST_MOVE : wanted;
            for (int day = wanted; day <= last && day < length; day++) {
                if (feastsOn[day] == NONE) {
                    feastsOn[day] = feast;
                    placedDays[feast] = day;
                    return;
                }
            }
        }

        int placedDay(int feast) {
            return feast >= 0 && feast < placedDays.length ? placedDays[feast] : NONE;
        }

        int feastOn(int day) {
            return day >= 0 && day < feastsOn.length ? feastsOn[day] : NONE;
        }

        /** Whether a claim of a question holds; all feasts are placed then. */
        boolean claimHolds(int kind, int argument) {
            switch (kind) {
                case Code.NO_CLASH:
                    return countClashes() == 0;
                case Code.PLACED_ON_DATE:
                    int day = placedDay(argument / 10000);
                    return day != NONE && Calendar.dateOf(year, day) == argument % 10000;
                case Code.PLACED_ON_WEEKDAY:
                    walk.toDay(placedDay(argument / 10));
                    return walk.isOnWeekday(argument % 10);
                case Code.NOT_PLACED:
                    return placedDay(argument) == NONE;
                default:
                    int first = placedDay(argument / 100);
                    return first != NONE && first < placedDay(argument % 100);
            }
        }
    }

    /** The same places, found from the rules as they are written, and day by day. */
    private static final class PlainBook {
        private static final int DEEPEST = Text.MOST + 1;

        private final Almanac almanac;
        private final Walk walk = new Walk();
        private final int[] bentDays = new int[Almanac.MOST_FEASTS];
        private final int[] placedDays = new int[Almanac.MOST_FEASTS];
        private Text rule;
        private int place;

        PlainBook(Almanac almanac) {
            this.almanac = almanac;
            rule = new Text();
        }

        void readAll(int year, int table) {
            for (int i = 0; i < almanac.size(); i++) {
                int feast = almanac.inOrder(i);
                walk.enter(year, table);
                rule = almanac.rule(feast);
                place = 0;
                readStart();
                readSteps(true, 0);
                bentDays[feast] = almanac.bend(feast, year, walk.today());
            }
        }

        private void readStart() {
            switch (nextSign()) {
                case 'D':
                    walk.toDate(nextNumber(4));
                    break;
                case 'N':
                    int n = nextNumber(1);
                    int weekday = nextNumber(1);
                    walk.toNthWeekday(n, weekday, nextNumber(2));
                    break;
                case 'L':
                    int lastOne = nextNumber(1);
                    walk.toLastWeekday(lastOne, nextNumber(2));
                    break;
                default:
                    walk.toDay(bentDay(nextNumber(2)));
                    break;
            }
        }

        // what does not count is read as well, to find its end
        private void readSteps(boolean counts, int depth) {
            for (int i = 0; i < Text.MOST && depth <= DEEPEST; i++) {
                char sign = rule.at(place);
                if (sign == '}' || sign == Text.END) {
                    return;
                }
                if (sign == '?') {
                    place++;
                    readBranch(counts, depth + 1);
                } else if (sign == '+' || sign == '-') {
                    readDays(counts);
                } else {
                    place++;
                    readMove(sign, counts);
                }
            }
        }

        private void readBranch(boolean counts, int depth) {
            boolean holds = readCondition(depth);
            place++;
            readSteps(counts && holds, depth);
            place++;
            if (rule.at(place) == '{') {
                place++;
                readSteps(counts && !holds, depth);
                place++;
            }
        }

        private void readDays(boolean counts) {
            int sum = 0;
            for (int i = 0; i < Text.MOST && (rule.at(place) == '+' || rule.at(place) == '-'); i++) {
                boolean later = nextSign() == '+';
                int days = nextNumber(3);
                sum += later ? days : -days;
            }
            if (counts) {
                walk.toLater(sum);
            }
        }

        private void readMove(char sign, boolean counts) {
            boolean hasWeekday = sign == '>' || sign == '<' || sign == ']' || sign == '[';
            int weekday = hasWeekday ? nextNumber(1) : NONE;
            if (!counts) {
                return;
            }
            switch (sign) {
                case '>':
                    walk.toWeekdayBehind(weekday);
                    break;
                case '<':
                    walk.toWeekdayAhead(weekday);
                    break;
                case ']':
                    walk.toWeekdayNotAhead(weekday);
                    break;
                case '[':
                    walk.toWeekdayNotBehind(weekday);
                    break;
                case 'O':
                    walk.toMoonOfAge(YearBook.FULL_MOON_AGE);
                    break;
                case 'Q':
                    walk.toMoonOfAge(0);
                    break;
                default:
                    walk.toNone();
                    break;
            }
        }

        private boolean readCondition(int depth) {
            if (depth > DEEPEST) {
                return false;
            }
            switch (nextSign()) {
                case 'W':
                    return walk.isOnWeekday(nextNumber(1));
                case 'Y':
                    return walk.isInLeapYear();
                case 'A':
                    return walk.isOnDay(bentDay(nextNumber(2)));
                case 'E':
                    return walk.isBeforeDate(nextNumber(4));
                case '!':
                    return !readCondition(depth + 1);
                default:
                    boolean first = readCondition(depth + 1);
                    boolean both = nextSign() == '&';
                    boolean second = readCondition(depth + 1);
                    place++;
                    return both ? first && second : first || second;
            }
        }

        private char nextSign() {
            char sign = rule.at(place);
            place++;
            return sign;
        }

        private int nextNumber(int mostDigits) {
            int number = 0;
            for (int i = 0; i < mostDigits; i++) {
                char digit = rule.at(place);
                if (digit < '0' || digit > '9') {
                    break;
                }
                number = 10 * number + digit - '0';
                place++;
            }
            return number;
        }

        private int bentDay(int feast) {
            return feast >= 0 && feast < bentDays.length ? bentDays[feast] : NONE;
        }

        void goThroughDays(int year) {
            for (int feast = 0; feast < almanac.size(); feast++) {
                placedDays[feast] = NONE;
            }
            int length = Calendar.lengthOf(year);
            for (int day = 0; day < length; day++) {
                int feast = bestOn(day);
                if (feast != NONE) {
                    placedDays[feast] = day;
                }
            }
        }

        private int bestOn(int day) {
            int best = NONE;
            for (int feast = 0; feast < almanac.size(); feast++) {
                if (asksFor(feast, day) && (best == NONE || almanac.rankOf(feast) > almanac.rankOf(best))) {
                    best = feast;
                }
            }
            return best;
        }

        private boolean asksFor(int feast, int day) {
            int wanted = bentDays[feast];
            if (wanted == NONE || placedDays[feast] != NONE) {
                return false;
            }
            int last = almanac.canMove(feast) ? wanted + YearBook.FARTHEST_MOVE : wanted;
            return day >= wanted && day <= last;
        }

        int placedDay(int feast) {
            return feast >= 0 && feast < placedDays.length ? placedDays[feast] : NONE;
        }
    }

    /** A search by a question, and what was paid for all searches. */
    private static final class Solver {
        private final Code question = new Code();
        private boolean started;
        private int nextYear;
        private long paid;

        void start(Code newQuestion, int year) {
            question.copyFrom(newQuestion);
            nextYear = year;
            started = true;
        }

        boolean isStarted() {
            return started;
        }

        long paid() {
            return paid;
        }

        int look(int cost, YearBook book, int table) {
            int left = cost;
            for (int year = nextYear; year <= LAST_YEAR; year++) {
                book.reckon(year, table);
                int price = book.costOfAll();
                if (price > left) {
                    return PAUSED;
                }
                left -= price;
                paid += price;
                nextYear = year + 1;
                book.placeAll();
                if (questionHolds(book)) {
                    return year;
                }
            }
            return NONE;
        }

        private boolean questionHolds(YearBook book) {
            boolean holds = false;
            int place = 0;
            for (int met = 0; met < question.size() && place < question.size(); met++) {
                int kind = question.kindAt(place);
                if (kind == Code.NOT) {
                    holds = !holds;
                } else if (kind >= Code.NO_CLASH) {
                    holds = book.claimHolds(kind, question.argumentAt(place));
                }
                place = question.placeAfter(place, holds);
            }
            return holds;
        }
    }

    /** The bells of the parishes, the ringers, and who rings in the year that was rung last. */
    private static final class Belfry {
        static final int PARISHES = 6;
        static final int MOST_BELLS = 6;
        private static final int MOST_RINGERS = 24;

        private final int[] bellsOf = new int[PARISHES];
        private final int[] parishOf = new int[MOST_RINGERS];
        private final int[] restOf = new int[MOST_RINGERS];
        private int size;

        private final int[] lastDays = new int[MOST_RINGERS];
        private final int[] counts = new int[MOST_RINGERS];
        private final int[][] rungBy = new int[Almanac.MOST_FEASTS][PARISHES * MOST_BELLS];
        private int silences;

        int hang(int parish, int bells) {
            int before = bellsOf[parish];
            bellsOf[parish] = bells;
            return before;
        }

        int hire(int parish, int rest) {
            if (size >= MOST_RINGERS) {
                return NONE;
            }
            parishOf[size] = parish;
            restOf[size] = rest;
            size++;
            return size - 1;
        }

        int size() {
            return size;
        }

        /** Rings a year whose feasts are placed in the first book; the other one has the other table. */
        void ringYear(Almanac almanac, YearBook book, YearBook otherBook) {
            forgetYear();
            for (int day = 0; day <= LAST_DAY_OF_YEAR; day++) {
                int feast = book.feastOn(day);
                if (feast != NONE) {
                    int lastDay = book.isNextTo(otherBook, feast) ? day + 1 : day;
                    ringFeast(feast, almanac.rankOf(feast), day, lastDay);
                }
            }
        }

        private void forgetYear() {
            silences = 0;
            for (int ringer = 0; ringer < MOST_RINGERS; ringer++) {
                lastDays[ringer] = NONE;
                counts[ringer] = 0;
            }
            for (int feast = 0; feast < Almanac.MOST_FEASTS; feast++) {
                for (int bell = 0; bell < PARISHES * MOST_BELLS; bell++) {
                    rungBy[feast][bell] = NONE;
                }
            }
        }

        private void ringFeast(int feast, int rank, int day, int lastDay) {
            for (int parish = 0; parish < PARISHES; parish++) {
                for (int bell = 0; bell < rank && bell < bellsOf[parish]; bell++) {
                    int ringer = ringerFor(parish, day);
                    rungBy[feast][MOST_BELLS * parish + bell] = ringer;
                    if (ringer == NONE) {
                        silences++;
                    } else {
                        counts[ringer]++;
                        lastDays[ringer] = lastDay;
                    }
                }
            }
        }

        private int ringerFor(int parish, int day) {
            int best = NONE;
            for (int ringer = 0; ringer < size; ringer++) {
                boolean isFree = parishOf[ringer] == parish && isRested(ringer, day);
                if (isFree && (best == NONE || counts[ringer] < counts[best])) {
                    best = ringer;
                }
            }
            return best;
        }

        // a ringer with a bell on this day has a last day of today at least, and so is not rested
        private boolean isRested(int ringer, int day) {
            return lastDays[ringer] == NONE || day - lastDays[ringer] > restOf[ringer];
        }

        int ringerAt(int feast, int parish, int bell) {
            return rungBy[feast][MOST_BELLS * parish + bell];
        }

        int silences() {
            return silences;
        }

        int countOf(int ringer) {
            return counts[ringer];
        }
    }
}
