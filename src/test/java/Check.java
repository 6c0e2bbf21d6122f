/** Counts answers that are not as due, and prints each of them. */
final class Check {
    interface Call {
        Object answer();
    }

    private int wrong;

    void same(String call, Object got, Object due) {
        if (!String.valueOf(got).equals(String.valueOf(due))) {
            wrong++;
            System.out.println(call + " answered " + got + ", due is " + due);
        }
    }

    void argument(String call, Call made) {
        same(call, outcome(made), "throws.IllegalArgumentException");
    }

    void state(String call, Call made) {
        same(call, outcome(made), "throws.IllegalStateException");
    }

    void index(String call, Call made) {
        same(call, outcome(made), "throws.IndexOutOfBoundsException");
    }

    /** The answer as a text, or which exception was thrown: the very class, so the machine's own ones differ. */
    static String outcome(Call made) {
        try {
            return String.valueOf(made.answer());
        } catch (RuntimeException | StackOverflowError thrown) {
            return "throws." + thrown.getClass().getSimpleName();
        }
    }

    static void write(AlmanacLoom loom, String text) {
        for (int i = 0; i < text.length(); i++) {
            loom.type(text.charAt(i));
        }
    }

    static int add(AlmanacLoom loom, String rule, int rank, boolean moves) {
        write(loom, rule);
        return loom.feast(rank, moves);
    }

    void finish(String name) {
        System.out.println(name + (wrong == 0 ? ": all answers are as due" : ": " + wrong + " answers are not as due"));
        if (wrong != 0) {
            System.exit(1);
        }
    }
}
