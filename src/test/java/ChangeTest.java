/** Promises 5 to 13 and 39: changes of formulas, variables and registers, and what they count. */
final class ChangeTest {
    private static final Due DUE = new Due();
    private static final String BIG = "a*b*c+d*e*f+(a*b*c+d*e*f)+a*(b*c+d)";

    private static void remove() {
        ExpressionCompiler x = Due.compilerWith("a", "b", "c");
        DUE.fails("removeFormula(-1)", IndexOutOfBoundsException.class, () -> x.removeFormula(-1));
        DUE.fails("removeFormula(3)", IndexOutOfBoundsException.class, () -> x.removeFormula(3));
        DUE.is("undoCount() after failures", 3, x.undoCount());
        DUE.is("removeFormula(0)", 2, x.removeFormula(0));
        DUE.is("state after removeFormula(0)", "b c 0 0 0 0 0 0 2 0", Due.state(x));
        DUE.fails("value(2) after removal", IndexOutOfBoundsException.class, () -> x.value(2));
        DUE.is("removeFormula(1)", 1, x.removeFormula(1));
        DUE.is("state after removeFormula(1)", "b 0 0 0 0 0 0 2 0", Due.state(x));
        DUE.is("next index", 1, Due.add(x, "d"));
        DUE.is("removeFormula(1) again", 1, x.removeFormula(1));
        DUE.is("removeFormula(0) of one", 0, x.removeFormula(0));
        DUE.fails("removeFormula(0) of none", IndexOutOfBoundsException.class, () -> x.removeFormula(0));
        ExpressionCompiler six = Due.compilerWith("a", "b", "c", "d", "e", "f");
        DUE.is("removeFormula(5) of six", 5, six.removeFormula(5));
        DUE.is("removeFormula(2) of five", 4, six.removeFormula(2));
        DUE.is("state of four", "a b d e 0 0 0 0 0 0 2 0", Due.state(six));
    }

    private static void simplified(String text, String want, int decrease) {
        ExpressionCompiler x = Due.compilerWith(text);
        DUE.is("simplify " + text, decrease, x.simplify(0));
        DUE.is("simplified " + text, want, Due.text(x, 0));
        DUE.is("removedNodes() after " + text, decrease, x.removedNodes());
        DUE.is("undoCount() after " + text, 2, x.undoCount());
    }

    private static void simplifyByRules() {
        simplified("a", "a", 0);
        simplified("5", "5", 0);
        simplified("-5", "-5", 1);
        simplified("--5", "5", 2);
        simplified("2+3", "5", 2);
        simplified("2-3", "-1", 2);
        simplified("2*3", "6", 2);
        simplified("-a", "-a", 0);
        simplified("--a", "a", 2);
        simplified("---a", "-a", 2);
        simplified("------a", "a", 6);
        simplified("--(a+b)", "a+b", 2);
        simplified("a+0", "a", 2);
        simplified("0+a", "a", 2);
        simplified("0+0", "0", 2);
        simplified("a-0", "a", 2);
        simplified("0-a", "-a", 1);
        simplified("0--a", "a", 3);
        simplified("0-(a+b)", "-(a+b)", 1);
        simplified("0-5", "-5", 2);
        simplified("a-a", "0", 2);
        simplified("-a--a", "0", 4);
        simplified("a*b-a*b", "0", 6);
        simplified("a*b-b*a", "a*b-b*a", 0);
        simplified("a*0", "0", 2);
        simplified("0*(a+b)", "0", 4);
        simplified("a*1", "a", 2);
        simplified("1*a", "a", 2);
        simplified("1*1", "1", 2);
        simplified("a+a", "a+a", 0);
        simplified("a*-1", "a*-1", 1);
        simplified("-1*a", "-1*a", 1);
        simplified("a+-b", "a+-b", 0);
        simplified("a--b", "a--b", 0);
        simplified("2+a+3", "2+a+3", 0);
        simplified("a*2*3", "a*2*3", 0);
        simplified("a+2*3", "a+6", 2);
        simplified("(a-a)*b+c", "c", 6);
        simplified("(a-a+1)*b", "b", 6);
        simplified("-(0-a)", "a", 3);
        simplified("-(a-b)", "-(a-b)", 0);
        simplified("0-(0-a)", "a", 4);
        simplified("0-(0-(0-a))", "-a", 5);
        simplified("a-(b-b)", "a", 4);
        simplified("a-(1-1)-(a+0)", "0", 8);
        simplified("0*a+1*b-0", "b", 8);
        simplified("99*99*99*99*99", "919965907", 8);
        simplified("99*99*99*99*99*(99-1)", "-37654330", 12);
    }

    private static void simplifyWithState() {
        ExpressionCompiler x = Due.compilerWith("a+0", "b*1*1");
        x.setVariable('a', 1);
        DUE.fails("simplify(2)", IndexOutOfBoundsException.class, () -> x.simplify(2));
        DUE.fails("simplify(-1)", IndexOutOfBoundsException.class, () -> x.simplify(-1));
        DUE.is("undoCount() after failures", 3, x.undoCount());
        DUE.is("simplify(1)", 4, x.simplify(1));
        DUE.is("simplify(1) again", 0, x.simplify(1));
        DUE.is("undoCount() after a simplify without change", 5, x.undoCount());
        DUE.is("simplify(0)", 2, x.simplify(0));
        DUE.is("state", "a b 1 0 0 0 0 0 2 6", Due.state(x));
        DUE.is("removedNodes()", 6, x.removedNodes());
        x.differentiate(0, 'a');
        DUE.is("removedNodes() after differentiate", 6, x.removedNodes());
        x.removeFormula(0);
        DUE.is("removedNodes() after removeFormula", 6, x.removedNodes());
        x.undo();
        x.undo();
        x.undo();
        DUE.is("removedNodes() after undo", 4, x.removedNodes());
    }

    private static void derived(String text, char letter, String want) {
        ExpressionCompiler x = Due.compilerWith(text);
        DUE.is("differentiate " + text + " by " + letter, 1, Due.outcome(() -> x.differentiate(0, letter)));
        DUE.is("derivative of " + text + " by " + letter, want, Due.outcome(() -> Due.text(x, 1)));
        DUE.is("formula after differentiate " + text, x.nodeCount(0), Due.compilerWith(text).nodeCount(0));
    }

    private static void differentiateByRules() {
        derived("5", 'a', "0");
        derived("a", 'a', "1");
        derived("b", 'a', "0");
        derived("f", 'f', "1");
        derived("-a", 'a', "-1");
        derived("-b", 'a', "0");
        derived("a+b", 'a', "1");
        derived("a-b", 'b', "-1");
        derived("a+a", 'a', "2");
        derived("a*b", 'a', "b");
        derived("a*b", 'b', "a");
        derived("a*a", 'a', "a+a");
        derived("a*a*a", 'a', "(a+a)*a+a*a");
        derived("a*b*c", 'c', "a*b");
        derived("-(a*b)", 'a', "-b");
        derived("a*(b+0)", 'a', "b");
        derived("a*(b+0)", 'b', "a");
        derived("b*c-a*-a", 'a', "-(-a+a*-1)");
        derived("(a+b)*(a-b)", 'a', "a-b+(a+b)");
        derived("(a+b)*(a-b)", 'b', "a-b+(a+b)*-1");
    }

    private static void differentiateWithLimits() {
        ExpressionCompiler x = Due.compilerWith(BIG, "a");
        DUE.fails("differentiate(2,a)", IndexOutOfBoundsException.class, () -> x.differentiate(2, 'a'));
        DUE.fails("differentiate(-1,g)", IndexOutOfBoundsException.class, () -> x.differentiate(-1, 'g'));
        DUE.fails("differentiate(0,g)", IllegalArgumentException.class, () -> x.differentiate(0, 'g'));
        DUE.fails("differentiate(0,`)", IllegalArgumentException.class, () -> x.differentiate(0, '`'));
        Due.add(x, "a*a*a*a*a*a*a");
        DUE.fails("differentiate to many nodes", UnsupportedOperationException.class, () -> x.differentiate(2, 'a'));
        // Before it is simplified, this derivative has far more than 31 nodes.
        DUE.is("differentiate a large one", 3, x.differentiate(0, 'f'));
        DUE.is("derivative of a large one", "d*e+d*e", Due.text(x, 3));
        DUE.is("undoCount() after differentiate", 4, x.undoCount());
        x.removeFormula(3);
        Due.add(x, "(a+b+c+d+e+f)*(a*b)");
        DUE.is("derivative of depth 8", 4, x.differentiate(3, 'a'));
        DUE.is("depth of the derivative", 8, x.depth(4));
        x.removeFormula(4);
        Due.add(x, "-(a+b+c+d+e+f)*(a*b)");
        DUE.fails("differentiate to depth 9", UnsupportedOperationException.class, () -> x.differentiate(4, 'a'));
        DUE.is("formulaCount() after failures", 5, x.formulaCount());
        Due.add(x, "a");
        DUE.fails("differentiate with six", IllegalStateException.class, () -> x.differentiate(5, 'a'));
        DUE.fails("differentiate a large one with six", IllegalStateException.class, () -> x.differentiate(4, 'a'));
        DUE.fails("differentiate(0,g) with six", IllegalArgumentException.class, () -> x.differentiate(0, 'g'));
        DUE.fails("differentiate(6,g) with six", IndexOutOfBoundsException.class, () -> x.differentiate(6, 'g'));
    }

    private static void substituted(String text, char letter, String by, String want) {
        ExpressionCompiler x = Due.compilerWith(text, by);
        Object nodes = Due.outcome(() -> x.substitute(0, letter, 1));
        DUE.is("substitute " + by + " for " + letter + " in " + text, want, Due.text(x, 0));
        DUE.is("nodes of " + want, nodes, x.nodeCount(0));
        DUE.is("replacement of " + letter + " in " + text, by, Due.text(x, 1));
        DUE.is("undoCount() after substitute", 3, x.undoCount());
    }

    private static void substitute() {
        substituted("a", 'a', "b", "b");
        substituted("a", 'b', "c", "a");
        substituted("5", 'b', "c", "5");
        substituted("a*a+b", 'a', "c-1", "(c-1)*(c-1)+b");
        substituted("a*a+b", 'a', "a*b", "a*b*(a*b)+b");
        substituted("-a", 'a', "-b", "--b");
        substituted("a+b", 'a', "0", "0+b");
        substituted("a-b", 'b', "a-b", "a-(a-b)");
        ExpressionCompiler same = Due.compilerWith("a*a+b");
        DUE.is("substitute by itself", 13, same.substitute(0, 'a', 0));
        DUE.is("text", "(a*a+b)*(a*a+b)+b", Due.text(same, 0));
        DUE.fails("substitute b by itself, too large", UnsupportedOperationException.class,
                () -> same.substitute(0, 'b', 0));
        DUE.is("text after the failure", "(a*a+b)*(a*a+b)+b", Due.text(same, 0));
        DUE.is("undoCount() after the failure", 2, same.undoCount());
    }

    private static void substituteWithLimits() {
        ExpressionCompiler x = Due.compilerWith(BIG, "a+b", "a+b+c+d+e+f", "-a", "e");
        DUE.fails("substitute to 33 nodes", UnsupportedOperationException.class, () -> x.substitute(0, 'e', 1));
        DUE.is("substitute to 31 nodes", 31, x.substitute(0, 'e', 4));
        DUE.fails("substitute(5,a,0)", IndexOutOfBoundsException.class, () -> x.substitute(5, 'a', 0));
        DUE.fails("substitute(0,a,5)", IndexOutOfBoundsException.class, () -> x.substitute(0, 'a', 5));
        DUE.fails("substitute(0,g,-1)", IndexOutOfBoundsException.class, () -> x.substitute(0, 'g', -1));
        DUE.fails("substitute(-1,g,0)", IndexOutOfBoundsException.class, () -> x.substitute(-1, 'g', 0));
        DUE.fails("substitute(0,g,0)", IllegalArgumentException.class, () -> x.substitute(0, 'g', 0));
        DUE.fails("substitute(0,A,0)", IllegalArgumentException.class, () -> x.substitute(0, 'A', 0));
        DUE.is("substitute to depth 7", 12, x.substitute(2, 'a', 3));
        DUE.is("substitute to depth 8", 13, x.substitute(2, 'a', 3));
        DUE.is("depth(2)", 8, x.depth(2));
        DUE.fails("substitute to depth 9", UnsupportedOperationException.class, () -> x.substitute(2, 'a', 3));
        DUE.is("formula 2 after the failure", "--a+b+c+d+e+f", Due.text(x, 2));
        DUE.is("substitute what does not occur", 3, x.substitute(1, 'f', 0));
        DUE.is("undoCount()", 8, x.undoCount());
    }

    private static void variables() {
        ExpressionCompiler x = new ExpressionCompiler();
        DUE.is("setVariable(a,999)", 0, x.setVariable('a', 999));
        DUE.is("setVariable(a,-999)", 999, x.setVariable('a', -999));
        DUE.is("variable(a)", -999, x.variable('a'));
        DUE.is("setVariable(f,1)", 0, x.setVariable('f', 1));
        DUE.is("variable(f)", 1, x.variable('f'));
        DUE.is("variable(b)", 0, x.variable('b'));
        DUE.is("setVariable(f,1) again", 1, x.setVariable('f', 1));
        DUE.is("undoCount() after settings", 4, x.undoCount());
        for (int value : new int[] {1000, -1000, Integer.MAX_VALUE, Integer.MIN_VALUE}) {
            DUE.fails("setVariable(a," + value + ")", IllegalArgumentException.class, () -> x.setVariable('a', value));
        }
        for (char letter : new char[] {'g', '`', 'A', '\u0000', '\uffff'}) {
            DUE.fails("setVariable(" + letter + ",1)", IllegalArgumentException.class, () -> x.setVariable(letter, 1));
            DUE.fails("variable(" + letter + ")", IllegalArgumentException.class, () -> x.variable(letter));
        }
        DUE.is("state after failures", "-999 0 0 0 0 1 2 0", Due.state(x));
        DUE.is("undoCount() after failures", 4, x.undoCount());
    }

    private static void registers() {
        ExpressionCompiler x = new ExpressionCompiler();
        DUE.is("setRegisters(1)", 2, x.setRegisters(1));
        DUE.is("setRegisters(4)", 1, x.setRegisters(4));
        DUE.is("registers()", 4, x.registers());
        DUE.is("setRegisters(4) again", 4, x.setRegisters(4));
        for (int number : new int[] {0, 5, -1, Integer.MAX_VALUE, Integer.MIN_VALUE}) {
            DUE.fails("setRegisters(" + number + ")", IllegalArgumentException.class, () -> x.setRegisters(number));
        }
        DUE.is("registers() after failures", 4, x.registers());
        DUE.is("undoCount() after failures", 3, x.undoCount());
    }

    public static void main(String[] args) {
        remove();
        simplifyByRules();
        simplifyWithState();
        differentiateByRules();
        differentiateWithLimits();
        substitute();
        substituteWithLimits();
        variables();
        registers();
        DUE.end();
    }
}
