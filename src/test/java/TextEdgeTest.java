import java.util.NoSuchElementException;

/** The edges that "Texts" and "Details" name: what is held, what is read, and where a text goes wrong. */
final class TextEdgeTest {
    private static final Due DUE = new Due();
    private static final String SIXTY = "((((((a))))))*((((((b))))))+((((((a))))))*((((((b))))))+12-3";
    private static final String NO_ERROR = "throws NoSuchElementException";

    /** Reads a text with a new compiler: the written formula, or the error position, or the exception. */
    private static Object reading(String text) {
        ExpressionCompiler x = new ExpressionCompiler();
        Due.feed(x, text);
        Object index = Due.outcome(() -> x.addFormula());
        Object position = Due.outcome(() -> x.errorPosition());
        if (index.equals("throws IllegalArgumentException")) {
            return "error " + position;
        }
        if (!position.equals(NO_ERROR)) {
            return "error position " + position + " without an error";
        }
        return index.equals(0) ? Due.text(x, 0) : index;
    }

    private static void reads(String text, String want) {
        DUE.is("reading " + text, want, reading(text));
    }

    private static void breaks(String text, int position) {
        DUE.is("reading " + text, "error " + position, reading(text));
    }

    /** "The input buffer holds at most 60 characters." */
    private static void sixtyCharacters() {
        ExpressionCompiler x = new ExpressionCompiler();
        Due.feed(x, SIXTY.substring(0, 58));
        DUE.is("feed number 59", 59, x.feed('-'));
        DUE.is("feed number 60", 60, x.feed('3'));
        for (char character : new char[] {'1', ')', '\u0000', '\uffff'}) {
            DUE.fails("feed number 61", IllegalStateException.class, () -> x.feed(character));
        }
        DUE.is("addFormula() of 60 characters", 0, x.addFormula());
        DUE.is("formula of 60 characters", "a*b+a*b+12-3", Due.text(x, 0));
        DUE.is("feed after 60 characters", 1, x.feed('c'));
        DUE.is("addFormula() of one character", 1, x.addFormula());
        DUE.is("formula of one character", "c", Due.text(x, 1));
        for (int i = 0; i < 60; i++) {
            x.feed('a');
        }
        DUE.is("clearBuffer() of 60", 60, x.clearBuffer());
        DUE.is("clearBuffer() again", 0, x.clearBuffer());
        DUE.is("feed after clearBuffer()", 1, x.feed('d'));
        DUE.is("clearBuffer() of one", 1, x.clearBuffer());
    }

    private static void sixtyMalformed() {
        String start = SIXTY.substring(0, 59);
        breaks(start + "-", 60);
        breaks(start + "(", 60);
        breaks(start + "+", 59);
        breaks(start + "*", 59);
        breaks(start + ")", 59);
        breaks(start + " ", 59);
        breaks("a".repeat(60), 1);
        breaks("1".repeat(60), 2);
        breaks("-".repeat(60), 6);
        breaks("(".repeat(60), 6);
        breaks(")".repeat(60), 0);
        breaks(" ".repeat(60), 0);
    }

    /** "The input buffer is empty afterwards in all cases." */
    private static void bufferIsEmptyAfterwards() {
        String[] texts = {"", "a+", "a b", SIXTY, "a+a+a+a+a+a+a+a+a", "c", SIXTY.substring(0, 59) + "-"};
        for (int formulas : new int[] {0, 6}) {
            for (String text : texts) {
                ExpressionCompiler x = new ExpressionCompiler();
                for (int i = 0; i < formulas; i++) {
                    Due.add(x, "d");
                }
                Due.feed(x, text);
                Due.outcome(() -> x.addFormula());
                DUE.is("clearBuffer() after " + text + " to " + formulas, 0, x.clearBuffer());
                x.feed('e');
                Due.outcome(() -> x.addFormula());
                DUE.is("feed after " + text + " to " + formulas, 1, x.feed('f'));
            }
        }
    }

    /** "A number has one or two digits", wherever it stands. */
    private static void digits() {
        String[] starts = {"", "-", "(", "a+", "a-", "a*", "1*", "(a)-", "------"};
        for (String start : starts) {
            String end = start.equals("(") ? ")" : "";
            for (String number : new String[] {"0", "9", "5", "00", "09", "10", "99", "50"}) {
                String written = Integer.toString(Integer.parseInt(number));
                String shown = start.equals("(") ? "" : start.equals("(a)-") ? "a-" : start;
                reads(start + number + end, shown + written);
            }
            for (String number : new String[] {"000", "001", "100", "999", "1000"}) {
                breaks(start + number + end, start.length() + 2);
            }
        }
        breaks("/", 0);
        breaks(":", 0);
        breaks("1/", 1);
        breaks("1:", 1);
        breaks("12/", 2);
    }

    /** "A variable is a letter from 'a' to 'f'." */
    private static void letters() {
        for (char letter = 'a'; letter <= 'f'; letter++) {
            reads("" + letter, "" + letter);
            reads("-" + letter + "*" + letter, "-" + letter + "*" + letter);
        }
        for (char letter : new char[] {'`', 'g', 'z', 'A', 'F', '@', '\u0000', '\u00e4', '\u0430', '\uffff'}) {
            breaks("" + letter, 0);
            breaks("a+" + letter, 2);
            breaks("(" + letter + ")", 1);
            breaks("a" + letter, 1);
        }
    }

    /** "A text must not contain blanks." */
    private static void blanks() {
        for (char blank : new char[] {' ', '\t', '\n', '\r', '\u00a0', '\u2003'}) {
            breaks("" + blank, 0);
            breaks(blank + "a", 0);
            breaks("a" + blank, 1);
            breaks("a" + blank + "+b", 1);
            breaks("a+" + blank + "b", 2);
            breaks("1" + blank + "2", 1);
            breaks("12" + blank, 2);
            breaks("(" + blank + "a)", 1);
            breaks("(a" + blank + ")", 2);
            breaks("(a)" + blank, 3);
            breaks("-" + blank + "a", 1);
        }
    }

    /** "Operators of the same kind of line above are taken from the left to the right." */
    private static void fromTheLeft() {
        String[][] same = {
            {"a-b-c", "(a-b)-c"}, {"a-b+c", "(a-b)+c"}, {"a+b-c", "(a+b)-c"}, {"a+b+c", "(a+b)+c"},
            {"a*b*c", "(a*b)*c"}, {"a-b*c", "a-(b*c)"}, {"a*b-c", "(a*b)-c"}, {"a-b*c-d", "(a-(b*c))-d"},
            {"a*b*c-d*e*f", "((a*b)*c)-((d*e)*f)"}, {"-a*b", "(-a)*b"}, {"a*-b*c", "(a*(-b))*c"},
            {"-a-b", "(-a)-b"}, {"--a+b", "(-(-a))+b"}, {"a---b", "a-(-(-b))"},
        };
        String[][] different = {
            {"a-b-c", "a-(b-c)"}, {"a-b+c", "a-(b+c)"}, {"a+b-c", "a+(b-c)"}, {"a+b+c", "a+(b+c)"},
            {"a*b*c", "a*(b*c)"}, {"a-b*c", "(a-b)*c"}, {"a*b-c", "a*(b-c)"}, {"-a*b", "-(a*b)"}, {"-a-b", "-(a-b)"},
        };
        for (String[] pair : same) {
            DUE.is(pair[0] + " is " + pair[1], true, Due.compilerWith(pair).isSame(0, 1));
        }
        for (String[] pair : different) {
            DUE.is(pair[0] + " is " + pair[1], false, Due.compilerWith(pair).isSame(0, 1));
        }
    }

    /** "At most 6 parentheses may be open at the same time." */
    private static void parentheses() {
        for (int open = 1; open <= 6; open++) {
            String start = "(".repeat(open);
            String end = ")".repeat(open);
            reads(start + "a" + end, "a");
            reads(start + "a" + end + "-" + start + "b" + end + "*" + start + "c" + end, "a-b*c");
            reads("-" + start + "a" + end, "-a");
            reads("a*" + start + "b+c" + end, "a*(b+c)");
            breaks(start + "a" + end + ")", 2 * open + 1);
            breaks(start + "a" + end.substring(1), 2 * open);
            breaks(start, open);
            breaks(start + ")", open);
        }
        reads("(a+(b+(c+(d+(e+(f))))))", "a+(b+(c+(d+(e+f))))");
        reads("((((((a)+b)+c)+d)+e)+f)", "a+b+c+d+e+f");
        breaks("(((((((a)))))))", 6);
        breaks("-(((((((a)))))))", 7);
        breaks("a+(((((((b)))))))", 8);
        breaks("((((((a))))))*(((((((b)))))))", 20);
        breaks("((((((a)+((b)))))))", 10);
        breaks("(a+(b+(c+(d+(e+(f+(a)))))))", 18);
        breaks("((((((-(a)))))))", 7);
    }

    /** "At most 6 negations may directly follow each other", and "each parenthesis begins a new count". */
    private static void negations() {
        for (int count = 1; count <= 6; count++) {
            String signs = "-".repeat(count);
            reads(signs + "a", signs + "a");
            reads(signs + "12", signs + "12");
            reads("a-" + signs + "b", "a-" + signs + "b");
            reads("a+" + signs + "b", "a+" + signs + "b");
            reads("a*" + signs + "b", "a*" + signs + "b");
            reads("(" + signs + "a)", signs + "a");
            reads(signs + "a*" + signs + "b", signs + "a*" + signs + "b");
            breaks(signs, count);
            breaks(signs + ")", count);
        }
        for (String start : new String[] {"", "(", "a-", "a+", "a*", "a-(", "-(", "------(", "(------(", "------a-"}) {
            breaks(start + "-------a", start.length() + 6);
            breaks(start + "-------(a)", start.length() + 6);
            breaks(start + "-------", start.length() + 6);
            breaks(start + "------", start.length() + 6);
        }
        reads("------(-a)", "------(-a)");
        reads("(------(-a))", "------(-a)");
        reads("---(----a)", "------(-a)");
        reads("-(-(-(-(-(-(a))))))", "------a");
        // The text is well-formed, though its formula is too deep.
        reads("------(--a)", "throws UnsupportedOperationException");
        reads("------(------a)", "throws UnsupportedOperationException");
        reads("------(------(------(------a)))", "throws UnsupportedOperationException");
        reads("a-------(------b)", "throws UnsupportedOperationException");
    }

    /** The error position is "the length of the text if the text ends too early", also for an empty text. */
    private static void endsTooEarly() {
        for (String text : new String[] {"", "-", "(", "a+", "a-", "a*", "1+", "12*", "(a", "(1", "(12", "(a+", "(a)*",
            "((a)", "a-(", "a--", "-(-(", "(a-b", "a*(b", "a+b*", "a-b-"}) {
            breaks(text, text.length());
        }
    }

    /** Otherwise it is "the index of the first character that cannot continue a well-formed text". */
    private static void cannotContinue() {
        String factors = "+*)/ g";
        for (String start : new String[] {"", "-", "(", "a+", "a-", "a*", "a-(", "(a)*"}) {
            for (char character : factors.toCharArray()) {
                breaks(start + character, start.length());
                breaks(start + character + "a", start.length());
            }
        }
        for (String start : new String[] {"a", "12", "(a)", "-a", "a*12", "a-(b)", "(1+2)"}) {
            for (char character : "(a1)= ".toCharArray()) {
                breaks(start + character, start.length());
                breaks(start + character + "+b", start.length());
            }
        }
    }

    /** Every text of up to five characters out of nine, against the model's reader. */
    private static void everyShortText() {
        String signs = "a17-+*() ";
        for (int length = 0; length <= 5; length++) {
            int texts = 1;
            for (int i = 0; i < length; i++) {
                texts *= signs.length();
            }
            for (int number = 0; number < texts; number++) {
                StringBuilder text = new StringBuilder();
                for (int rest = number, i = 0; i < length; i++, rest /= signs.length()) {
                    text.append(signs.charAt(rest % signs.length()));
                }
                likeModel(text.toString());
            }
        }
    }

    /** Every number of negations and parentheses around the limits, one behind the other. */
    private static void everyStart() {
        for (int outer = 0; outer <= 7; outer++) {
            for (int open = 0; open <= 7; open++) {
                for (int inner = 0; inner <= 7; inner++) {
                    String start = "-".repeat(outer) + "(".repeat(open) + "-".repeat(inner);
                    likeModel(start);
                    likeModel(start + "a" + ")".repeat(open));
                    likeModel(start + "(a)" + ")".repeat(open) + "*" + start + "b" + ")".repeat(open));
                    likeModel("a-" + start + "12+" + start + "c");
                }
            }
        }
    }

    private static void likeModel(String text) {
        if (text.length() > 60) {
            return;
        }
        int position = ModelTest.errorIn(text);
        if (position >= 0) {
            breaks(text, position);
            return;
        }
        ModelTest.Node tree = ModelTest.parsed(text);
        if (tree.nodes() > 31 || tree.depth() > 8) {
            reads(text, "throws UnsupportedOperationException");
        } else if (!tree.hasSevenNegations()) {
            reads(text, tree.text());
        }
    }

    /** errorPosition answers for "the latest malformed text", and throws "if no text was malformed". */
    private static void latestMalformed() {
        ExpressionCompiler x = new ExpressionCompiler();
        DUE.fails("errorPosition() at first", NoSuchElementException.class, () -> x.errorPosition());
        Due.add(x, "a");
        DUE.fails("errorPosition() after a formula", NoSuchElementException.class, () -> x.errorPosition());
        Due.feed(x, "a+)");
        x.clearBuffer();
        DUE.fails("errorPosition() of what was not parsed", NoSuchElementException.class, () -> x.errorPosition());
        Due.feed(x, "a+a+a+a+a+a+a+a+a");
        DUE.fails("too deep", UnsupportedOperationException.class, () -> x.addFormula());
        DUE.fails("errorPosition() after a deep formula", NoSuchElementException.class, () -> x.errorPosition());
        int[] positions = {3, 0, 1, 0, 60};
        String[] texts = {"a+b)", "", "ab", ")", SIXTY.substring(0, 59) + "-"};
        for (int i = 0; i < texts.length; i++) {
            Due.feed(x, texts[i]);
            DUE.fails("addFormula() of " + texts[i], IllegalArgumentException.class, () -> x.addFormula());
            DUE.is("errorPosition() of " + texts[i], positions[i], x.errorPosition());
            Due.add(x, "b");
            DUE.is("errorPosition() after b", positions[i], x.errorPosition());
        }
    }

    public static void main(String[] args) {
        sixtyCharacters();
        sixtyMalformed();
        bufferIsEmptyAfterwards();
        digits();
        letters();
        blanks();
        fromTheLeft();
        parentheses();
        negations();
        endsTooEarly();
        cannotContinue();
        everyShortText();
        everyStart();
        latestMalformed();
        DUE.end();
    }
}
