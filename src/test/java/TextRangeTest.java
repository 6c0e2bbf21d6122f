import java.util.ArrayList;
import java.util.List;

/** Promises 8 and 9, swept: each number that a rule or a question may hold, and each character at each kind of place. */
public final class TextRangeTest {
    private static final Check CHECK = new Check();
    private static final String STEPS = "+-><][?OQX";
    private static final String WHOLE_STEPS = "OQX";
    private static final int[] MONTHS = {31, 29, 31, 30, 31, 30, 31, 31, 30, 31, 30, 31};

    public static void main(String[] args) {
        numbersOfRules();
        numbersOfQuestions();
        days();
        charactersOfRules();
        charactersOfQuestions();
        charactersForDigits();
        CHECK.finish("TextRangeTest");
    }

    private static void numbersOfRules() {
        sweep(true, "D", dates(), "");
        sweep(true, "F00?E", dates(), "{}");
        sweep(true, "N", joined(joined(numbers(1, 5, 1), numbers(0, 6, 1)), numbers(1, 12, 2)), "");
        sweep(true, "L", joined(numbers(0, 6, 1), numbers(1, 12, 2)), "");
        sweep(true, "F", numbers(0, 19, 2), "");
        sweep(true, "F00?A", numbers(0, 19, 2), "{}");
        sweep(true, "F00?W", numbers(0, 6, 1), "{}");
        for (char move : "><][".toCharArray()) {
            sweep(true, "F00" + move, numbers(0, 6, 1), "");
        }
    }

    private static void numbersOfQuestions() {
        sweep(false, "D", numbers(0, 19, 2), "0101");
        sweep(false, "D00", dates(), "");
        sweep(false, "D19", dates(), "");
        sweep(false, "W", joined(numbers(0, 19, 2), numbers(0, 6, 1)), "");
        sweep(false, "N", numbers(0, 19, 2), "");
        sweep(false, "B", joined(numbers(0, 19, 2), numbers(0, 19, 2)), "");
    }

    // here a number may have 1 to 3 digits, so one digit more may be the fault
    private static void days() {
        List<String> allowed = new ArrayList<>();
        for (int digits = 1; digits <= 3; digits++) {
            allowed.addAll(numbers(0, Math.min(366, power(digits) - 1), digits));
        }
        for (int digits = 1; digits <= 4; digits++) {
            for (int number = 0; number < power(digits); number++) {
                String text = padded(number, digits);
                fault(true, "F00+" + text, faultBehind(4, text, allowed));
                fault(true, "F00O-" + text, faultBehind(5, text, allowed));
            }
        }
    }

    private static void charactersOfRules() {
        characters(true, "", "DNLF", "");
        characters(true, "F00", STEPS, WHOLE_STEPS);
        characters(true, "F00>0", STEPS, WHOLE_STEPS);
        characters(true, "F00O", STEPS, WHOLE_STEPS);
        characters(true, "F00X", STEPS, WHOLE_STEPS);
        characters(true, "F00+1", STEPS + "0123456789", WHOLE_STEPS + "0123456789");
        characters(true, "F00+36", STEPS + "0123456", WHOLE_STEPS + "0123456");
        characters(true, "F00+366", STEPS, WHOLE_STEPS);
        characters(true, "F00?", "WYAE!(", "");
        characters(true, "F00?!", "WYAE!(", "");
        characters(true, "F00?(", "WYAE!(", "");
        characters(true, "F00?(Y&", "WYAE!(", "");
        characters(true, "F00?(Y", "&|", "");
        characters(true, "F00?(Y&Y", ")", "");
        characters(true, "F00?(Y|Y", ")", "");
        characters(true, "F00?Y", "{", "");
        characters(true, "F00?(Y|Y)", "{", "");
        characters(true, "F00?Y{", STEPS + "}", "}");
        characters(true, "F00?Y{O", STEPS + "}", "}");
        characters(true, "F00?Y{}", STEPS + "{", WHOLE_STEPS);
        characters(true, "F00?Y{}{", STEPS + "}", "}");
        characters(true, "F00?Y{}{}", STEPS, WHOLE_STEPS);
        characters(true, "F00?Y{?Y{}", STEPS + "{}", "}");
    }

    private static void charactersOfQuestions() {
        characters(false, "", "CDWNB!(", "C");
        characters(false, "!", "CDWNB!(", "C");
        characters(false, "(", "CDWNB!(", "");
        characters(false, "(C|", "CDWNB!(", "");
        characters(false, "(C", "&|", "");
        characters(false, "(C&C", ")", ")");
        characters(false, "(C|C", ")", ")");
        characters(false, "C", "", "");
        characters(false, "(C&C)", "", "");
        characters(false, "N00", "", "");
    }

    /** A place for a digit takes no other character. */
    private static void charactersForDigits() {
        for (String text : new String[] {"D0229", "N5612", "L612", "F19", "F00>6", "F00<6", "F00]6", "F00[6", "F00+",
            "F00-", "F00?W6", "F00?A19", "F00?E1231"}) {
            noOtherThanDigits(true, text);
        }
        for (String text : new String[] {"D191231", "W196", "N19", "B1919"}) {
            noOtherThanDigits(false, text);
        }
    }

    private static void noOtherThanDigits(boolean isRule, String text) {
        int first = 1;
        for (int place = 0; place < text.length(); place++) {
            first = Character.isDigit(text.charAt(place)) ? first : place + 1;
        }
        for (int place = first; place < Math.max(first + 1, text.length()); place++) {
            for (char character = 33; character <= 126; character++) {
                if (!Character.isDigit(character)) {
                    fault(isRule, text.substring(0, place) + character, place);
                }
            }
        }
    }

    /** Each character behind a text: those that can go on, and among them those that make it whole. */
    private static void characters(boolean isRule, String text, String canGoOn, String whole) {
        for (char character = 33; character <= 126; character++) {
            int due = whole.indexOf(character) >= 0 ? -1 : text.length() + (canGoOn.indexOf(character) >= 0 ? 1 : 0);
            fault(isRule, text + character, due);
        }
    }

    /** Each row of digits as long as those that are allowed, and each that is too short. */
    private static void sweep(boolean isRule, String ahead, List<String> allowed, String behind) {
        int digits = allowed.get(0).length();
        for (int number = 0; number < power(digits); number++) {
            String text = padded(number, digits);
            int due = faultBehind(ahead.length(), text, allowed);
            fault(isRule, ahead + text + behind, due);
        }
        for (int length = 0; length < digits; length++) {
            String text = allowed.get(allowed.size() - 1).substring(0, length);
            fault(isRule, ahead + text, ahead.length() + length);
        }
    }

    private static int faultBehind(int ahead, String text, List<String> allowed) {
        if (allowed.contains(text)) {
            return -1;
        }
        for (int length = 1; length <= text.length(); length++) {
            String start = text.substring(0, length);
            if (allowed.stream().noneMatch(number -> number.startsWith(start))) {
                return ahead + length - 1;
            }
        }
        return ahead + text.length();
    }

    private static void fault(boolean isRule, String text, int due) {
        AlmanacLoom loom = new AlmanacLoom();
        Check.write(loom, text);
        String call = (isRule ? "fault of " : "questionFault of ") + text;
        CHECK.same(call, isRule ? loom.fault() : loom.questionFault(), due);
    }

    private static List<String> dates() {
        List<String> dates = new ArrayList<>();
        for (int month = 1; month <= 12; month++) {
            dates.addAll(joined(numbers(month, month, 2), numbers(1, MONTHS[month - 1], 2)));
        }
        return dates;
    }

    private static List<String> joined(List<String> first, List<String> second) {
        List<String> all = new ArrayList<>();
        for (String one : first) {
            for (String other : second) {
                all.add(one + other);
            }
        }
        return all;
    }

    private static List<String> numbers(int lowest, int highest, int digits) {
        List<String> numbers = new ArrayList<>();
        for (int number = lowest; number <= highest; number++) {
            numbers.add(padded(number, digits));
        }
        return numbers;
    }

    private static String padded(int number, int digits) {
        return String.valueOf(power(digits) + number).substring(1);
    }

    private static int power(int digits) {
        int power = 1;
        for (int i = 0; i < digits; i++) {
            power *= 10;
        }
        return power;
    }
}
