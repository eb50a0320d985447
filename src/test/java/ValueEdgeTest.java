/** The edges of "Values", "Simplification", "Slopes", "Writing" and "Code": what wraps, and constants below 0. */
final class ValueEdgeTest {
    private static final Due DUE = new Due();
    private static final int LEAST = Integer.MIN_VALUE;
    private static final int GREATEST = Integer.MAX_VALUE;

    /** The variables whose places the constants of a formula take. */
    private static final String LETTERS = "def";

    /** Adds a formula that is one constant, built from its digits of six bits each, as texts have at most two digits. */
    private static void addConstant(ExpressionCompiler x, int number) {
        int index = Due.add(x, "0");
        for (int bits = 30; bits >= 0; bits -= 6) {
            Due.add(x, "f*64+" + (number >>> bits & 63));
            x.substitute(index + 1, 'f', index);
            x.simplify(index + 1);
            x.removeFormula(index);
        }
    }

    /** A compiler whose only formula is the text, with constants in place of d, e and f. */
    private static ExpressionCompiler withConstants(String text, int... numbers) {
        ExpressionCompiler x = Due.compilerWith(text);
        for (int i = 0; i < numbers.length; i++) {
            addConstant(x, numbers[i]);
            x.substitute(0, LETTERS.charAt(i), 1);
            x.removeFormula(1);
        }
        return x;
    }

    private static void constantsAsLargeAsWanted() {
        for (int number : new int[] {0, 1, -1, 99, 100, -100, 999, -1000, 123456789, -987654321, GREATEST, LEAST}) {
            ExpressionCompiler x = withConstants("d", number);
            DUE.is("value of the constant", number, x.value(0));
            DUE.is("text of the constant", Integer.toString(number), Due.text(x, 0));
            DUE.is("nodes of the constant", 1, x.nodeCount(0));
            DUE.is("isConstant", true, x.isConstant(0));
            DUE.is("code of the constant", "r0=" + number, Due.code(x, 0));
            DUE.is("kind of the constant", 'c', x.instructionKind(0, 0));
        }
    }

    private static void wraps(int want, String text, int... numbers) {
        ExpressionCompiler x = withConstants(text, numbers);
        String name = Due.text(x, 0);
        DUE.is("value of " + name, want, x.value(0));
        for (int registers = 1; registers <= 4; registers++) {
            x.setRegisters(registers);
            DUE.is("valueByCode of " + name + " with " + registers, want, x.valueByCode(0));
        }
        DUE.is("isConsistent with " + name, true, x.isConsistent());
        int nodes = x.nodeCount(0);
        DUE.is("simplify " + name, nodes - 1, x.simplify(0));
        DUE.is("simplified " + name, Integer.toString(want), Due.text(x, 0));
        DUE.is("value of the simplified " + name, want, x.value(0));
    }

    /** "Results that do not fit wrap around as in Java", in each operator, for each way to compute them. */
    private static void valuesWrap() {
        wraps(LEAST, "d+1", GREATEST);
        wraps(GREATEST, "d-1", LEAST);
        wraps(LEAST, "d-(0-1)", GREATEST);
        wraps(LEAST, "-d", LEAST);
        wraps(-GREATEST, "-d", GREATEST);
        wraps(LEAST, "--d", LEAST);
        wraps(LEAST, "0-d", LEAST);
        wraps(-1, "d+e", GREATEST, LEAST);
        wraps(-2, "d+e", GREATEST, GREATEST);
        wraps(0, "d+e", LEAST, LEAST);
        wraps(-1, "d-e", GREATEST, LEAST);
        wraps(1, "d-e", LEAST, GREATEST);
        wraps(-2, "d*2", GREATEST);
        wraps(0, "2*d", LEAST);
        wraps(1, "d*e", GREATEST, GREATEST);
        wraps(LEAST, "d*e", LEAST, GREATEST);
        wraps(LEAST, "d*e", LEAST, -1);
        wraps(LEAST, "e*d", LEAST, -1);
        wraps(0, "d*e", 65536, 65536);
        wraps(LEAST, "d*e", 65536, 32768);
        wraps(-727379968, "d*e", 1000000, 1000000);
        wraps(-1, "d*2+1-e*e", GREATEST, LEAST);
    }

    private static void wrapsWithVariables() {
        ExpressionCompiler x = Due.compilerWith("a*a*a*a", "-(b*b*b)*b", "a*a*a+b*b*b*99*99", "a*a*a*3-b*b*b");
        x.setVariable('a', 999);
        x.setVariable('b', -999);
        int[] want = {999 * 999 * 999 * 999, 999 * 999 * 999 * -999, 999 * 999 * 999 + -999 * 999 * 999 * 99 * 99,
            999 * 999 * 999 * 3 + 999 * 999 * 999};
        for (int f = 0; f < want.length; f++) {
            DUE.is("value(" + f + ")", want[f], x.value(f));
            for (int registers = 1; registers <= 4; registers++) {
                x.setRegisters(registers);
                DUE.is("valueByCode(" + f + ")", want[f], x.valueByCode(f));
            }
        }
        DUE.is("slope of a*a*a*a", 4 * 999 * 999 * 999, x.slope(0, 'a'));
        DUE.is("slopeByDerivative of a*a*a*a", 4 * 999 * 999 * 999, x.slopeByDerivative(0, 'a'));
        DUE.is("isConsistent()", true, x.isConsistent());
    }

    private static void slopeWraps(int want, String text, int... numbers) {
        ExpressionCompiler x = withConstants(text, numbers);
        String name = Due.text(x, 0);
        DUE.is("slope of " + name, want, x.slope(0, 'a'));
        DUE.is("slopeByDerivative of " + name, want, x.slopeByDerivative(0, 'a'));
        DUE.is("slope by another variable of " + name, 0, x.slope(0, 'b'));
        DUE.is("slopeByDerivative by another variable of " + name, 0, x.slopeByDerivative(0, 'b'));
        DUE.is("isConsistent with " + name, true, x.isConsistent());
        x.differentiate(0, 'a');
        DUE.is("derivative of " + name, Integer.toString(want), Due.text(x, 1));
    }

    /** Slopes are values: they wrap around too, in each operator. */
    private static void slopesWrap() {
        slopeWraps(GREATEST, "a*d", GREATEST);
        slopeWraps(LEAST, "-(d*a)", LEAST);
        slopeWraps(LEAST, "a*d+a", GREATEST);
        slopeWraps(GREATEST, "d*a-a", LEAST);
        slopeWraps(-2, "d*a+a*d", GREATEST);
        slopeWraps(1, "a*d*d", GREATEST);
        slopeWraps(-1, "a*d-a*e", GREATEST, LEAST);
        slopeWraps(LEAST, "d*(a*e)", LEAST, -1);
        slopeWraps(0, "2*(a*d)", LEAST);
    }

    private static void written(String want, String text, int... numbers) {
        ExpressionCompiler x = withConstants(text, numbers);
        DUE.is("length of " + want, want.length(), x.writeFormula(0));
        DUE.is("text of " + text, want, Due.text(x, 0));
    }

    /** "Constants below 0 are written like negations, as "-" and the digits", and "never get parentheses". */
    private static void constantsBelowZero() {
        written("-3", "d", -3);
        written("-3+a", "d+a", -3);
        written("-3-a", "d-a", -3);
        written("-3*a", "d*a", -3);
        written("a+-3", "a+d", -3);
        written("a--3", "a-d", -3);
        written("a*-3", "a*d", -3);
        written("--3", "-d", -3);
        written("---3", "--d", -3);
        written("------3", "-----d", -3);
        written("-------3", "------d", -3);
        written("a-------3", "a------d", -3);
        written("-3--4", "d-e", -3, -4);
        written("-3*-4+-5", "d*e+f", -3, -4, -5);
        written("-3*(-4+-5)", "d*(e+f)", -3, -4, -5);
        written("-3-(-4--5)", "d-(e-f)", -3, -4, -5);
        written("-(-3*-4)", "-(d*e)", -3, -4);
        written("--3*-4", "-d*e", -3, -4);
        written("-2147483648*a-2147483647", "d*a-e", LEAST, GREATEST);
        written("-(a-b)*-3", "-(a-b)*d", -3);
        written("0*-1", "0*d", -1);
        written("100+-100", "d+e", 100, -100);
    }

    /** "Though they would be parsed to other trees": a negation and a constant below 0 are told apart. */
    private static void negationsAreNoConstants() {
        ExpressionCompiler x = Due.compilerWith("-5", "-5", "--5", "a");
        x.simplify(1);
        DUE.is("the texts are the same", Due.text(x, 0), Due.text(x, 1));
        DUE.is("isSame", false, x.isSame(0, 1));
        DUE.is("nodes of the negation", 2, x.nodeCount(0));
        DUE.is("nodes of the constant", 1, x.nodeCount(1));
        DUE.is("commonParts", 0, x.commonParts(0, 1));
        DUE.is("code of the negation", "r0=5 r0=-r0", Due.code(x, 0));
        DUE.is("code of the constant", "r0=-5", Due.code(x, 1));
        x.simplify(0);
        DUE.is("isSame when both are constants", true, x.isSame(0, 1));
    }

    private static void simplifies(String want, int decrease, String text, int... numbers) {
        ExpressionCompiler x = withConstants(text, numbers);
        String name = Due.text(x, 0);
        int before = x.removedNodes();
        DUE.is("simplify " + name, decrease, x.simplify(0));
        DUE.is("simplified " + name, want, Due.text(x, 0));
        DUE.is("removedNodes() after " + name, before + decrease, x.removedNodes());
    }

    /** "The first of these rules that fits is applied"; the constants of the rules are 0 and 1 alone. */
    private static void rulesOfSimplification() {
        simplifies("-1*a", 0, "d*a", -1);
        simplifies("a*-1", 0, "a*d", -1);
        simplifies("a+-1", 0, "a+d", -1);
        simplifies("2*a", 0, "2*a");
        simplifies("a-1", 0, "a-1");
        simplifies("1-a", 0, "1-a");
        simplifies("a+1", 0, "a+1");
        simplifies("a", 4, "a+(1-1)");
        simplifies("a", 4, "(2-1)*a");
        simplifies("a", 6, "a*(d+e+1)", LEAST, LEAST);
        simplifies("0", 4, "a*(d+e)", LEAST, LEAST);
        simplifies("-a", 3, "d+e-a", LEAST, LEAST);
        simplifies("3", 1, "-d", -3);
        simplifies("-3", 2, "--d", -3);
        simplifies("-(-3+a)", 0, "-(d+a)", -3);
        simplifies("0", 2, "d-d", -3);
        simplifies("0", 6, "a*d-a*d", -3);
        simplifies("a*-3-a*-4", 0, "a*d-a*e", -3, -4);
        simplifies("a--3", 0, "a-d", -3);
        simplifies("a*-3", 1, "a*-3");
        simplifies("0", 7, "a*-3-a*d", -3);
        simplifies("a+b", 2, "a+b-0");
        simplifies("-(a+b)", 1, "0-(a+b)");
        simplifies("a+b", 3, "0--(a+b)");
        simplifies("a-a*b", 0, "a-a*b");
        simplifies("-a-a", 0, "-a-a");
        simplifies("a--a", 0, "a--a");
        simplifies("a+-a", 0, "a+-a");
        simplifies("0", 4, "--a-a");
        simplifies("0", 4, "0*1*a");
        simplifies("1", 2, "1*1");
        simplifies("0", 2, "0-0");
        simplifies("0", 1, "-0");
        simplifies("a*b", 2, "a*b*1");
    }

    /** "A formula is written as a text of this form": 6 negations in a row, a new count behind a parenthesis. */
    private static void negationsInWhatIsWritten() {
        for (int count = 1; count <= 6; count++) {
            String signs = "-".repeat(count);
            written(signs + "a", signs + "a");
            written(signs + "a*b", signs + "a*b");
            written(signs + "(a*b)", signs + "(a*b)");
            written("a-" + signs + "b", "a-" + signs + "b");
        }
        written("------(-a)", "------(-a)");
        written("------(-a)", "-(-(-(-(-(-(-a))))))");
        written("------(-7)", "---(----7)");
        written("------(--7)", "---(----d)", -7);
        written("-(---a-b)", "-(---a-b)");
        written("------a-b", "------a-b");
    }

    /** 1 to 4 registers: what is stored just before and just when the registers suffice. */
    private static void registersSuffice() {
        String four = "(a*b-a*b)*(a*b-a*b)";
        String[] texts = {"a", "a*b", "a*b-a*b", four, four + "+" + four};
        int[][] stores = {{0, 0, 0, 0}, {1, 0, 0, 0}, {3, 1, 0, 0}, {7, 3, 1, 0}, {15, 7, 3, 1}};
        int[][] slots = {{0, 0, 0, 0}, {1, 0, 0, 0}, {2, 1, 0, 0}, {3, 2, 1, 0}, {4, 3, 2, 1}};
        for (int need = 1; need <= 5; need++) {
            ExpressionCompiler x = new ExpressionCompiler();
            Due.add(x, texts[need - 1]);
            DUE.is("neededRegisters " + need, need, x.neededRegisters(0));
            DUE.is("neededRegistersByOrders " + need, need, x.neededRegistersByOrders(0));
            DUE.is("least registers of " + need, need <= 4 ? (Object) need : "throws NoSuchElementException",
                    Due.outcome(() -> x.leastRegistersWithoutStore(0)));
            for (int registers = 1; registers <= 4; registers++) {
                x.setRegisters(registers);
                String name = " of need " + need + " with " + registers;
                DUE.is("storeCount" + name, stores[need - 1][registers - 1], x.storeCount(0));
                DUE.is("slotCount" + name, slots[need - 1][registers - 1], x.slotCount(0));
                DUE.is("codeLength" + name, x.nodeCount(0) + stores[need - 1][registers - 1], x.codeLength(0));
                DUE.is("storeShare" + name, (float) x.storeCount(0) / (float) x.codeLength(0), x.storeShare(0));
                DUE.is("greatest register" + name, Math.min(need, registers) - 1, greatestRegister(x));
            }
        }
    }

    private static int greatestRegister(ExpressionCompiler x) {
        int greatest = 0;
        for (int index = 0; index < x.codeLength(0); index++) {
            greatest = Math.max(greatest, x.instructionRegister(0, index));
        }
        return greatest;
    }

    public static void main(String[] args) {
        constantsAsLargeAsWanted();
        valuesWrap();
        wrapsWithVariables();
        slopesWrap();
        constantsBelowZero();
        negationsAreNoConstants();
        rulesOfSimplification();
        negationsInWhatIsWritten();
        registersSuffice();
        DUE.end();
    }
}
