/** Promises 6 to 9: type, wipe, fault, questionFault. */
public final class TextTest {
    private static final Check CHECK = new Check();

    public static void main(String[] args) {
        typing();
        starts();
        days();
        moves();
        branches();
        nesting();
        questions();
        CHECK.finish("TextTest");
    }

    private static void typing() {
        AlmanacLoom loom = new AlmanacLoom();
        CHECK.argument("type 32", () -> loom.type((char) 32));
        CHECK.argument("type 127", () -> loom.type((char) 127));
        CHECK.argument("type 0", () -> loom.type((char) 0));
        CHECK.same("type 33", loom.type((char) 33), 1);
        CHECK.same("type 126", loom.type((char) 126), 2);
        for (int length = 3; length <= 40; length++) {
            CHECK.same("type", loom.type('C'), length);
        }
        CHECK.state("type at 40", () -> loom.type('C'));
        CHECK.argument("type a wrong one at 40", () -> loom.type((char) 200));
        CHECK.same("wipe", loom.wipe(), 40);
        CHECK.same("wipe again", loom.wipe(), 0);
        CHECK.same("type behind a wipe", loom.type('F'), 1);
        CHECK.same("fault of what is typed then", loom.fault(), 1);
        CHECK.same("wipe of one", loom.wipe(), 1);
        CHECK.same("fault of none", loom.fault(), 0);
        CHECK.same("questionFault of none", loom.questionFault(), 0);
    }

    private static void starts() {
        rule("Z0101", 0);
        rule("d0101", 0);
        rule("D", 1);
        rule("D2", 1);
        rule("D00", 2);
        rule("D13", 2);
        rule("D0101", -1);
        rule("D0100", 4);
        rule("D0131", -1);
        rule("D0132", 4);
        rule("D014", 3);
        rule("D0229", -1);
        rule("D023", 3);
        rule("D0430", -1);
        rule("D0431", 4);
        rule("D1231", -1);
        rule("D12310", 5);
        rule("N0", 1);
        rule("N1001", -1);
        rule("N5612", -1);
        rule("N6", 1);
        rule("N17", 2);
        rule("N16", 3);
        rule("L601", -1);
        rule("L7", 1);
        rule("L013", 3);
        rule("F00", -1);
        rule("F19", -1);
        rule("F20", 1);
        rule("F1", 2);
        rule("F1x", 2);
        rule("F0:", 2);
        rule("F0/", 2);
        rule("L:01", 1);
        rule("D020:", 4);
    }

    private static void days() {
        rule("F00+", 4);
        rule("F00+0", -1);
        rule("F00+000", -1);
        rule("F00+0000", 7);
        rule("F00-366", -1);
        rule("F00-367", 6);
        rule("F00-370", 6);
        rule("F00+400", 6);
        rule("F00+99", -1);
        rule("F00+365-1+36", -1);
        rule("F00+1-", 6);
        rule("F00+-1", 4);
        rule("F00+:", 4);
        rule("F00+/", 4);
        rule("F00+1:", 5);
        rule("F00+1/", 5);
        rule("F00+12:", 6);
        rule("F00+36O", -1);
    }

    private static void moves() {
        rule("F00>6<0]1[2OQX", -1);
        rule("F00>7", 4);
        rule("F00>", 4);
        rule("F00[", 4);
        rule("F00O1", 4);
        rule("F00o", 3);
        rule("F00C", 3);
    }

    private static void branches() {
        rule("F00?", 4);
        rule("F00?Y", 5);
        rule("F00?Y{", 6);
        rule("F00?Y{}", -1);
        rule("F00?Y{}{", 8);
        rule("F00?Y{}{}", -1);
        rule("F00?Y{}{}{", 9);
        rule("F00?Y{}}", 7);
        rule("F00?Y{}+1", -1);
        rule("F00?YX", 5);
        rule("F00?W6{X}", -1);
        rule("F00?W7", 5);
        rule("F00?A20", 5);
        rule("F00?A19{O}{Q}", -1);
        rule("F00?E0230", 7);
        rule("F00?E0229{}", -1);
        rule("F00?C", 4);
        rule("F00?(Y", 6);
        rule("F00?(Y&", 7);
        rule("F00?(Y)", 6);
        rule("F00?(Y&Y&", 8);
        rule("F00?(Y&(W0|!Y)){}", -1);
        rule("F00?Y&", 5);
        rule("F00{", 3);
        rule("F00}", 3);
        rule("F00?Y{?Y{X}{O}}{Q}", -1);
        rule("F00?Y{?Y{X}{O}{", 14);
    }

    private static void nesting() {
        rule("F00?" + "!".repeat(36), 40);
        rule("F00?" + "(".repeat(36), 40);
        rule("F00?" + "!".repeat(33) + "Y{}", -1);
        rule("F00?" + "(".repeat(7) + "Y" + "&Y)".repeat(7) + "{}", -1);
        rule("F00" + "?Y{".repeat(9) + "}".repeat(9), -1);
        rule("F00" + "?Y{".repeat(9) + "}".repeat(8), 38);
        question("!".repeat(40), 40);
        question("(".repeat(40), 40);
        question("!".repeat(39) + "C", -1);
        question("(".repeat(9) + "C" + "|C)".repeat(9), -1);
    }

    private static void questions() {
        question("C", -1);
        question("CC", 1);
        question("c", 0);
        question("D00", 3);
        question("D000229", -1);
        question("D000230", 5);
        question("D190431", 6);
        question("D2", 1);
        question("W196", -1);
        question("W197", 3);
        question("W6", 1);
        question("N00", -1);
        question("N000", 3);
        question("B0019", -1);
        question("B002", 3);
        question("!C", -1);
        question("!", 1);
        question("(C&N00)", -1);
        question("(C|!N00)", -1);
        question("(", 1);
        question("((", 2);
        question("(C", 2);
        question("(C)", 2);
        question("(C&C", 4);
        question("Y", 0);
        question("E0101", 0);
        question("A00", 0);
    }

    private static void rule(String text, int due) {
        AlmanacLoom loom = new AlmanacLoom();
        Check.write(loom, text);
        CHECK.same("fault of " + text, loom.fault(), due);
        CHECK.same("fault again of " + text, loom.fault(), due);
        CHECK.same("wipe of " + text, loom.wipe(), text.length());
    }

    private static void question(String text, int due) {
        AlmanacLoom loom = new AlmanacLoom();
        Check.write(loom, text);
        CHECK.same("questionFault of " + text, loom.questionFault(), due);
        CHECK.same("wipe of " + text, loom.wipe(), text.length());
    }
}
