import java.util.NoSuchElementException;

/** Promises 11 to 28, 38, 40 and 42: what is counted, compared and computed. */
final class MeasureTest {
    private static final Due DUE = new Due();

    private static void shape(String text, int nodes, int depth, int degree, boolean isConstant) {
        ExpressionCompiler x = Due.compilerWith("a", text);
        DUE.is("nodeCount " + text, nodes, x.nodeCount(1));
        DUE.is("depth " + text, depth, x.depth(1));
        DUE.is("degree " + text, degree, x.degree(1));
        DUE.is("isConstant " + text, isConstant, x.isConstant(1));
    }

    private static void shapes() {
        shape("5", 1, 1, 0, true);
        shape("f", 1, 1, 1, false);
        shape("-a", 2, 2, 1, false);
        shape("-5", 2, 2, 0, true);
        shape("1+2*3", 5, 3, 0, true);
        shape("1+2*a", 5, 3, 1, false);
        shape("a+b", 3, 2, 1, false);
        shape("a-b*c", 5, 3, 2, false);
        shape("b*c-a", 5, 3, 2, false);
        shape("-(a*a)*(b+1)", 8, 4, 3, false);
        shape("a*0", 3, 2, 1, false);
        shape("0*a*a", 5, 3, 2, false);
        shape("a*a*a*a*a*a*a*a", 15, 8, 8, false);
        shape("a*(a*(a*(a*(a*(a*(a*a))))))", 15, 8, 8, false);
        shape("a*b*(c*d)*(e*f*(a*b))*(a*a*(a*a)*(a*a*(a*a)))", 31, 5, 16, false);
        shape("-(5-(7+9))", 6, 4, 0, true);
    }

    private static void occurrences() {
        ExpressionCompiler x = Due.compilerWith("a*b+a*-a-7", "f");
        DUE.is("occurrences of a", 3, x.occurrences(0, 'a'));
        DUE.is("occurrences of b", 1, x.occurrences(0, 'b'));
        DUE.is("occurrences of c", 0, x.occurrences(0, 'c'));
        DUE.is("occurrences of f in f", 1, x.occurrences(1, 'f'));
        DUE.fails("occurrences(2,a)", IndexOutOfBoundsException.class, () -> x.occurrences(2, 'a'));
        DUE.fails("occurrences(2,g)", IndexOutOfBoundsException.class, () -> x.occurrences(2, 'g'));
        DUE.fails("occurrences(0,g)", IllegalArgumentException.class, () -> x.occurrences(0, 'g'));
        DUE.fails("occurrences(0,`)", IllegalArgumentException.class, () -> x.occurrences(0, '`'));
        // A constant is no variable, though both hold the number 97.
        DUE.is("occurrences of a in 97", 0, Due.compilerWith("97").occurrences(0, 'a'));
        DUE.is("isSame of a and 97", false, Due.compilerWith("a", "97").isSame(0, 1));
    }

    private static void same(String first, String second, boolean want) {
        ExpressionCompiler x = Due.compilerWith(first, second);
        DUE.is(first + " is same as " + second, want, x.isSame(0, 1));
        DUE.is(second + " is same as " + first, want, x.isSame(1, 0));
        DUE.is(first + " is same as itself", true, x.isSame(0, 0));
    }

    private static void comparisons() {
        same("a", "a", true);
        same("a", "b", false);
        same("5", "05", true);
        same("5", "6", false);
        same("a+b", "(a)+b", true);
        same("a+b", "b+a", false);
        same("a+b", "a-b", false);
        same("a-b", "a*b", false);
        same("-a", "a", false);
        same("--a", "a", false);
        same("a+b+c", "a+(b+c)", false);
        same("-5", "5", false);
        same("a*b+c*d-e", "a*b+c*d-e", true);
        same("a*b+c*d-e", "a*b+c*d-f", false);
        same("a*b+c*d-e", "a*b+c*e-e", false);
        ExpressionCompiler x = Due.compilerWith("-5", "-5");
        x.simplify(1);
        DUE.is("a negation is no constant", false, x.isSame(0, 1));
        DUE.fails("isSame(0,2)", IndexOutOfBoundsException.class, () -> x.isSame(0, 2));
        DUE.fails("isSame(2,0)", IndexOutOfBoundsException.class, () -> x.isSame(2, 0));
        DUE.fails("isSame(-1,-1)", IndexOutOfBoundsException.class, () -> x.isSame(-1, -1));
    }

    private static void parts(String text, int want) {
        ExpressionCompiler x = Due.compilerWith("b*c", text);
        DUE.is("distinctParts " + text, want, x.distinctParts(1));
        DUE.is("distinctPartsByComparison " + text, want, x.distinctPartsByComparison(1));
        DUE.is("commonParts of itself " + text, want, x.commonParts(1, 1));
    }

    private static void distinct() {
        parts("a", 1);
        parts("a+a", 2);
        parts("a+b", 3);
        parts("a*b+b*a", 5);
        parts("a*b+a*b", 4);
        parts("a*b-a*b+(a*b-a*b)", 5);
        parts("--a", 3);
        parts("1+1+1", 3);
        parts("1+01+2-2", 5);
        parts("a+97", 3);
        parts("a+b+(a-b)+a*b", 7);
        parts("(a+b)*(a+b)*((a+b)*(a+b))*((a+b)*(a+b)*((a+b)*(a+b)))", 6);
        parts("a+1+(b+2)+(c+3+(d+4))+(e+5+(f+6)+(7+8+(9+10)))", 31);
    }

    private static void common(String first, String second, int want) {
        ExpressionCompiler x = Due.compilerWith(first, second);
        DUE.is("common of " + first + " and " + second, want, x.commonParts(0, 1));
        DUE.is("common of " + second + " and " + first, want, x.commonParts(1, 0));
    }

    private static void commons() {
        common("a", "a", 1);
        common("a", "b", 0);
        common("a+a", "a*a", 1);
        common("a*b+c", "c-a*b", 4);
        common("a*b", "b*a", 2);
        common("a+b-(a+b)", "a+b+(a+b)", 3);
        common("-a", "a", 1);
        common("5*a", "-5+b", 1);
        common("a+1+(b+2)+(c+3+(d+4))+(e+5+(f+6)+(7+8+(9+10)))", "a+1+(b+2)+(c+3+(d+4))+(e+5+(f+6)+(7+8+(9+10)))", 31);
        // Both have 31 different trees, and share the 16 without operands.
        common("a+b+(c+d)+(e+f+(1+2))+(3+4+(5+6)+(7+8+(9+0)))", "a*b*(c*d)*(e*f*(1*2))*(3*4*(5*6)*(7*8*(9*0)))", 16);
        ExpressionCompiler x = Due.compilerWith("a");
        DUE.fails("commonParts(0,1)", IndexOutOfBoundsException.class, () -> x.commonParts(0, 1));
        DUE.fails("commonParts(1,0)", IndexOutOfBoundsException.class, () -> x.commonParts(1, 0));
        DUE.fails("commonParts(-1,0)", IndexOutOfBoundsException.class, () -> x.commonParts(-1, 0));
    }

    private static ExpressionCompiler withValues(String... texts) {
        ExpressionCompiler x = Due.compilerWith(texts);
        x.setVariable('a', 5);
        x.setVariable('b', -3);
        x.setVariable('c', 10);
        x.setVariable('d', 999);
        x.setVariable('f', 2);
        return x;
    }

    private static void evaluated(String text, int want) {
        ExpressionCompiler x = withValues("a", text);
        DUE.is("value " + text, want, x.value(1));
        for (int registers = 1; registers <= 4; registers++) {
            x.setRegisters(registers);
            DUE.is("valueByCode " + text + " with " + registers, want, x.valueByCode(1));
        }
        DUE.is("isConsistent with " + text, true, x.isConsistent());
    }

    private static void values() {
        evaluated("7", 7);
        evaluated("a", 5);
        evaluated("e", 0);
        evaluated("-a", -5);
        evaluated("a-b-c", -2);
        evaluated("a-(b-c)", 18);
        evaluated("a*b+c*a-7", 28);
        evaluated("f-a*b*c", 152);
        evaluated("c-(a*b-(f-(a-b*c)))", 10 - (-15 - (2 - 35)));
        evaluated("d*d*d*d", 999 * 999 * 999 * 999);
        evaluated("d*d*d*d-(d*d*d*d*d-1)", 999 * 999 * 999 * 999 - (999 * 999 * 999 * 999 * 999 - 1));
        evaluated("(a-b)*(c-f)-(c-a)*(f-b)+((a+b)*(c+f)-(a-c)*(b-f))", 8 * 8 - 5 * 5 + (2 * 12 - 25));
        ExpressionCompiler x = Due.compilerWith("a*a");
        DUE.is("value of a*a with 0", 0, x.value(0));
        x.setVariable('a', -7);
        DUE.is("value of a*a with -7", 49, x.value(0));
        DUE.is("valueByCode of a*a with -7", 49, x.valueByCode(0));
    }

    private static void sloped(String text, char letter, int want) {
        ExpressionCompiler x = withValues("a*f", text);
        DUE.is("slope " + text + " by " + letter, want, x.slope(1, letter));
        DUE.is("slopeByDerivative " + text + " by " + letter, want, x.slopeByDerivative(1, letter));
        DUE.is("formulas after slopes", 2, x.formulaCount());
        DUE.is("isConsistent with " + text, true, x.isConsistent());
    }

    private static void slopes() {
        sloped("7", 'a', 0);
        sloped("a", 'a', 1);
        sloped("a", 'b', 0);
        sloped("-a", 'a', -1);
        sloped("a+b", 'b', 1);
        sloped("a-b", 'b', -1);
        sloped("a*b", 'a', -3);
        sloped("a*b", 'b', 5);
        sloped("a*a*a", 'a', 75);
        sloped("-(a*a)*c", 'a', -100);
        sloped("-(a*a)*c", 'c', -25);
        sloped("(a-b)*(b-c)", 'b', 8 + 13);
        sloped("d*d*d*d*d", 'd', 5 * 999 * 999 * 999 * 999);
        // The derivative of this formula has far more than 31 nodes.
        sloped("a*b*(c*d)*(e*f*(a*b))*(a*a*(a*a)*(a*a*(a*a)))", 'f', 0);
        sloped("a*b*(c*a)*(b*f*(a*b))*(a*a*(a*a)*(a*a*(a*a)))", 'f', product());
        ExpressionCompiler x = withValues("a*b");
        DUE.fails("slope(1,a)", IndexOutOfBoundsException.class, () -> x.slope(1, 'a'));
        DUE.fails("slope(1,g)", IndexOutOfBoundsException.class, () -> x.slope(1, 'g'));
        DUE.fails("slope(0,g)", IllegalArgumentException.class, () -> x.slope(0, 'g'));
        DUE.fails("slope(0,@)", IllegalArgumentException.class, () -> x.slope(0, '@'));
        DUE.fails("slopeByDerivative(1,a)", IndexOutOfBoundsException.class, () -> x.slopeByDerivative(1, 'a'));
        DUE.fails("slopeByDerivative(-1,g)", IndexOutOfBoundsException.class, () -> x.slopeByDerivative(-1, 'g'));
        DUE.fails("slopeByDerivative(0,g)", IllegalArgumentException.class, () -> x.slopeByDerivative(0, 'g'));
        DUE.fails("slopeByDerivative(0,A)", IllegalArgumentException.class, () -> x.slopeByDerivative(0, 'A'));
        for (String letter : new String[] {"d", "e", "f"}) {
            Due.add(x, "a+a+a+a+a+a+a+a");
        }
        x.slopeByDerivative(0, 'a');
        DUE.is("undoCount() after slopes", 8, x.undoCount());
    }

    /** The value of the last sloped formula without its factor f. */
    private static int product() {
        int product = -3 * 10 * 5 * -3 * -3;
        for (int factor = 0; factor < 10; factor++) {
            product *= 5;
        }
        return product;
    }

    private static void needed(String text, int want) {
        ExpressionCompiler x = Due.compilerWith("a", text);
        DUE.is("neededRegisters " + text, want, x.neededRegisters(1));
        DUE.is("neededRegistersByOrders " + text, want, x.neededRegistersByOrders(1));
    }

    private static void needs() {
        needed("5", 1);
        needed("a", 1);
        needed("---a", 1);
        needed("a+b", 2);
        needed("-(a+b)", 2);
        needed("a+b+c+d+e", 2);
        needed("a-(b-(c-(d-e)))", 2);
        needed("a*b+c*d", 3);
        needed("a*b+c", 2);
        needed("a*b+c*d+e*f", 3);
        needed("a*b+c*d+(e*f+a*b)", 4);
        needed("a*b+c*d+(e*f+a*b)+(a*b+c*d+(e*f+a*b))", 5);
        ExpressionCompiler x = Due.compilerWith("a*b+c*d+(e*f+a*b)");
        x.setRegisters(1);
        DUE.is("neededRegisters with 1 register", 4, x.neededRegisters(0));
    }

    private static void sizes() {
        ExpressionCompiler x = new ExpressionCompiler();
        DUE.fails("meanNodes() of none", ArithmeticException.class, () -> x.meanNodes());
        DUE.fails("formulaBySize(0) of none", NoSuchElementException.class, () -> x.formulaBySize(0));
        for (String text : new String[] {"a", "a+b+c", "-a--b", "b", "----a", "a*b*c"}) {
            Due.add(x, text);
        }
        // Nodes 1, 5, 5, 1, 5, 5 and depths 1, 3, 3, 1, 5, 3.
        int[] order = {4, 1, 2, 5, 0, 3};
        for (int rank = 0; rank < order.length; rank++) {
            DUE.is("formulaBySize(" + rank + ")", order[rank], x.formulaBySize(rank));
        }
        for (int rank : new int[] {-1, 6, Integer.MAX_VALUE, Integer.MIN_VALUE}) {
            DUE.fails("formulaBySize(" + rank + ")", NoSuchElementException.class, () -> x.formulaBySize(rank));
        }
        DUE.is("formulaCount()", 6, x.formulaCount());
        DUE.is("meanNodes() of six", 22.0 / 6.0, x.meanNodes());
        x.removeFormula(0);
        DUE.is("meanNodes() of five", 21.0 / 5.0, x.meanNodes());
        DUE.is("meanNodes() of one", 1.0, Due.compilerWith("a").meanNodes());
        ExpressionCompiler more = Due.compilerWith("a+b+c+d", "-----a", "a", "a+b");
        // Nodes count before the depth: 7 nodes of depth 4 before 6 nodes of depth 6.
        DUE.is("formulaBySize(0) by nodes", 0, more.formulaBySize(0));
        DUE.is("formulaBySize(1) by nodes", 1, more.formulaBySize(1));
        DUE.is("formulaBySize(3) by nodes", 2, more.formulaBySize(3));
    }

    private static void wrongFormulas() {
        ExpressionCompiler x = Due.compilerWith("a", "b");
        for (int f : new int[] {2, -1, 6, Integer.MAX_VALUE, Integer.MIN_VALUE}) {
            Class<IndexOutOfBoundsException> want = IndexOutOfBoundsException.class;
            DUE.fails("nodeCount " + f, want, () -> x.nodeCount(f));
            DUE.fails("depth " + f, want, () -> x.depth(f));
            DUE.fails("occurrences " + f, want, () -> x.occurrences(f, 'a'));
            DUE.fails("degree " + f, want, () -> x.degree(f));
            DUE.fails("isConstant " + f, want, () -> x.isConstant(f));
            DUE.fails("isSame " + f, want, () -> x.isSame(f, 0));
            DUE.fails("isSame 0 " + f, want, () -> x.isSame(0, f));
            DUE.fails("distinctParts " + f, want, () -> x.distinctParts(f));
            DUE.fails("distinctPartsByComparison " + f, want, () -> x.distinctPartsByComparison(f));
            DUE.fails("commonParts " + f, want, () -> x.commonParts(f, 0));
            DUE.fails("commonParts 0 " + f, want, () -> x.commonParts(0, f));
            DUE.fails("value " + f, want, () -> x.value(f));
            DUE.fails("valueByCode " + f, want, () -> x.valueByCode(f));
            DUE.fails("slope " + f, want, () -> x.slope(f, 'a'));
            DUE.fails("slopeByDerivative " + f, want, () -> x.slopeByDerivative(f, 'a'));
            DUE.fails("neededRegisters " + f, want, () -> x.neededRegisters(f));
            DUE.fails("neededRegistersByOrders " + f, want, () -> x.neededRegistersByOrders(f));
        }
        DUE.is("undoCount() after questions", 2, x.undoCount());
    }

    public static void main(String[] args) {
        shapes();
        occurrences();
        comparisons();
        distinct();
        commons();
        values();
        slopes();
        needs();
        sizes();
        wrongFormulas();
        DUE.end();
    }
}
