import java.util.NoSuchElementException;

/** Promises 1 to 4 and 43: a new object, the input buffer, parsing, and the error position. */
final class TextTest {
    private static final Due DUE = new Due();

    private static void newObject() {
        ExpressionCompiler x = new ExpressionCompiler();
        DUE.is("new formulaCount()", 0, x.formulaCount());
        DUE.is("new registers()", 2, x.registers());
        DUE.is("new removedNodes()", 0, x.removedNodes());
        DUE.is("new undoCount()", 0, x.undoCount());
        DUE.is("new clearBuffer()", 0, x.clearBuffer());
        DUE.is("new isConsistent()", true, x.isConsistent());
        for (char letter = 'a'; letter <= 'f'; letter++) {
            DUE.is("new variable(" + letter + ")", 0, x.variable(letter));
        }
        DUE.fails("new errorPosition()", NoSuchElementException.class, () -> x.errorPosition());
        DUE.fails("new outputChar(0)", IndexOutOfBoundsException.class, () -> x.outputChar(0));
        DUE.fails("new undo()", IllegalStateException.class, () -> x.undo());
        DUE.fails("new restore()", IllegalStateException.class, () -> x.restore());
        DUE.fails("new nodeCount(0)", IndexOutOfBoundsException.class, () -> x.nodeCount(0));
    }

    private static void buffer() {
        ExpressionCompiler x = new ExpressionCompiler();
        String odd = "a \u0000\uffff(";
        for (int i = 0; i < 60; i++) {
            DUE.is("feed number " + i, i + 1, x.feed(odd.charAt(i % odd.length())));
        }
        DUE.fails("feed to 60", IllegalStateException.class, () -> x.feed('a'));
        DUE.fails("feed to 60 again", IllegalStateException.class, () -> x.feed('a'));
        DUE.is("clearBuffer() of 60", 60, x.clearBuffer());
        DUE.is("clearBuffer() of 0", 0, x.clearBuffer());
        DUE.is("feed after clearBuffer()", 1, x.feed('b'));
        DUE.is("addFormula() after clearBuffer()", 0, x.addFormula());
        DUE.is("text after clearBuffer()", "b", Due.text(x, 0));
        DUE.is("undoCount() without feed and clearBuffer", 1, x.undoCount());
    }

    private static void good(String text, String tree) {
        ExpressionCompiler x = new ExpressionCompiler();
        Due.feed(x, text);
        DUE.is("addFormula() of " + text, 0, Due.outcome(() -> x.addFormula()));
        DUE.is("tree of " + text, tree, Due.outcome(() -> Due.text(x, 0)));
        DUE.is("buffer after " + text, 0, x.clearBuffer());
        DUE.fails("errorPosition() after " + text, NoSuchElementException.class, () -> x.errorPosition());
    }

    private static void wellFormed() {
        good("0", "0");
        good("07", "7");
        good("00", "0");
        good("99", "99");
        good("a", "a");
        good("f", "f");
        good("a-b-c", "a-b-c");
        good("(a-b)-c", "a-b-c");
        good("a-(b-c)", "a-(b-c)");
        good("a*b*c", "a*b*c");
        good("a*(b*c)", "a*(b*c)");
        good("a+b*c", "a+b*c");
        good("(a+b)*c", "(a+b)*c");
        good("-a*b", "-a*b");
        good("(-a)*b", "-a*b");
        good("-(a*b)", "-(a*b)");
        good("-a+b", "-a+b");
        good("a*-b", "a*-b");
        good("a--b", "a--b");
        good("a+-b", "a+-b");
        good("((((((a))))))", "a");
        good("((((((a))))))*((((((b))))))", "a*b");
        good("------a", "------a");
        good("a-------b", "a-------b");
        good("a*------b", "a*------b");
        good("------(-a)", "------(-a)");
        good("12*34-56+78", "12*34-56+78");
        good("(((a)))+(b)", "a+b");
    }

    private static void bad(String text, int position) {
        ExpressionCompiler x = new ExpressionCompiler();
        Due.feed(x, text);
        DUE.fails("addFormula() of " + text, IllegalArgumentException.class, () -> x.addFormula());
        DUE.is("errorPosition() of " + text, position, Due.outcome(() -> x.errorPosition()));
        DUE.is("buffer after " + text, 0, x.clearBuffer());
        DUE.is("formulaCount() after " + text, 0, x.formulaCount());
        DUE.is("undoCount() after " + text, 0, x.undoCount());
    }

    private static void malformed() {
        bad("", 0);
        bad(" a", 0);
        bad("a b", 1);
        bad("a ", 1);
        bad("g", 0);
        bad("A", 0);
        bad("`", 0);
        bad("a-", 2);
        bad("a+", 2);
        bad("a*", 2);
        bad("a**b", 2);
        bad("a++b", 2);
        bad("+a", 0);
        bad("*a", 0);
        bad(")", 0);
        bad("()", 1);
        bad("(a", 2);
        bad("(a+b", 4);
        bad("a)", 1);
        bad("(a))", 3);
        bad("ab", 1);
        bad("a1", 1);
        bad("1a", 1);
        bad("123", 2);
        bad("a+123*b", 4);
        bad("12 ", 2);
        bad("a(b)", 1);
        bad("1(b)", 1);
        bad("(a)b", 3);
        bad("(a)1", 3);
        bad("(a)(b)", 3);
        bad("-", 1);
        bad("------", 6);
        bad("-------a", 6);
        bad("a--------b", 8);
        bad("a*-------b", 8);
        bad("------(-------a)", 13);
        bad("(((((((a)))))))", 6);
        bad("((((((", 6);
        bad("((((((a)))))", 12);
        bad("((((((a))))))*(((((((b)))))))", 20);
        bad("a\u0000", 1);
        bad("\u0000", 0);
        bad("\u0661", 0);
        bad("/", 0);
        bad(":", 0);
        bad("1/2", 1);
        bad("1:", 1);
        bad("a.", 1);
        bad("a+a+a+a+a+a+a+a+a+a+a+a+a+a+a+a+a+a+a+a+a+a+a+a+a+a+a+a+a+a+", 60);
    }

    private static void limits() {
        ExpressionCompiler x = new ExpressionCompiler();
        DUE.is("31 nodes", 0, Due.add(x, "a*b*c+d*e*f+(a*b*c+d*e*f)+a*(b*c+d)"));
        DUE.is("nodeCount() of 31", 31, x.nodeCount(0));
        Due.feed(x, "a*b*c+d*e*f+(a*b*c+d*e*f)+a*(b*c+-d)");
        DUE.fails("32 nodes", UnsupportedOperationException.class, () -> x.addFormula());
        DUE.is("buffer after 32 nodes", 0, x.clearBuffer());
        DUE.is("formulaCount() after 32 nodes", 1, x.formulaCount());
        DUE.is("undoCount() after 32 nodes", 1, x.undoCount());
        DUE.is("depth 8", 1, Due.add(x, "a+a+a+a+a+a+a+a"));
        DUE.is("depth(1)", 8, x.depth(1));
        Due.feed(x, "a+a+a+a+a+a+a+a+a");
        DUE.fails("depth 9", UnsupportedOperationException.class, () -> x.addFormula());
        Due.feed(x, "------(--a)");
        DUE.fails("depth 9 of negations", UnsupportedOperationException.class, () -> x.addFormula());
        Due.feed(x, "a+a+a+a+a+a+a+a+a+a+a+a+a+a+a+a+a+a+a+a+a+a+a+a+a+a+a+a+a+10");
        DUE.fails("60 characters", UnsupportedOperationException.class, () -> x.addFormula());
        DUE.fails("no text was malformed", NoSuchElementException.class, () -> x.errorPosition());
    }

    private static void sixFormulas() {
        ExpressionCompiler x = Due.compilerWith("a", "b", "c", "d", "e", "f");
        DUE.is("formulaCount() of six", 6, x.formulaCount());
        Due.feed(x, "a+b");
        DUE.fails("seventh formula", IllegalStateException.class, () -> x.addFormula());
        DUE.is("buffer after the seventh", 0, x.clearBuffer());
        Due.feed(x, "a+a+a+a+a+a+a+a+a");
        DUE.fails("seventh formula, too deep", IllegalStateException.class, () -> x.addFormula());
        DUE.fails("seventh, errorPosition()", NoSuchElementException.class, () -> x.errorPosition());
        Due.feed(x, "a+b)");
        DUE.fails("seventh formula, malformed", IllegalArgumentException.class, () -> x.addFormula());
        DUE.is("seventh, malformed, errorPosition()", 3, x.errorPosition());
        DUE.is("undoCount() of six", 6, x.undoCount());
    }

    private static void errorIsKept() {
        ExpressionCompiler x = Due.compilerWith("a");
        Due.feed(x, "a+");
        DUE.fails("a+", IllegalArgumentException.class, () -> x.addFormula());
        Due.add(x, "b");
        x.removeFormula(0);
        x.undo();
        x.undo();
        x.save();
        x.restore();
        DUE.is("errorPosition() after good texts and undo", 2, x.errorPosition());
        Due.feed(x, "a+a+a+a+a+a+a+a+a");
        DUE.fails("too deep", UnsupportedOperationException.class, () -> x.addFormula());
        DUE.is("errorPosition() after a deep text", 2, x.errorPosition());
        DUE.fails("empty text", IllegalArgumentException.class, () -> x.addFormula());
        DUE.is("errorPosition() of the latest", 0, x.errorPosition());
    }

    public static void main(String[] args) {
        newObject();
        buffer();
        wellFormed();
        malformed();
        limits();
        sixFormulas();
        errorIsKept();
        DUE.end();
    }
}
