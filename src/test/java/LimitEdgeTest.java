import java.util.NoSuchElementException;

/** The edges that "Formulas", "Values" and the promises name as limits: sizes, indices, variables, numbers. */
final class LimitEdgeTest {
    private interface AtIndex {
        Object ask(ExpressionCompiler x, int index);
    }

    private interface OfLetter {
        Object ask(ExpressionCompiler x, char letter);
    }

    private static final Due DUE = new Due();
    private static final Class<IndexOutOfBoundsException> NO_INDEX = IndexOutOfBoundsException.class;
    private static final Class<IllegalArgumentException> NO_LETTER = IllegalArgumentException.class;
    private static final Class<UnsupportedOperationException> TOO_LARGE = UnsupportedOperationException.class;

    /** 31 nodes, depth 6, with one e. */
    private static final String NODES_31 = "a*b*c+d*e*f+(a*b*c+d*a*f)+a*(b*c+d)";
    /** 30 nodes, depth 6, with one e. */
    private static final String NODES_30 = "a*b*c+d*e*f+(a*b*c+d*a*f)+a*-(b*c)";
    private static final String DEPTH_8 = "a+b+c+d+e+f+1+2";

    private static void adds(String text, int nodes, int depth) {
        ExpressionCompiler x = new ExpressionCompiler();
        DUE.is("addFormula() of " + text, 0, Due.outcome(() -> Due.add(x, text)));
        DUE.is("nodeCount of " + text, nodes, Due.outcome(() -> x.nodeCount(0)));
        DUE.is("depth of " + text, depth, Due.outcome(() -> x.depth(0)));
    }

    private static void refusesToAdd(String text) {
        ExpressionCompiler x = Due.compilerWith("f");
        Due.feed(x, text);
        DUE.fails("addFormula() of " + text, TOO_LARGE, () -> x.addFormula());
        DUE.is("state after " + text, "f 0 0 0 0 0 0 2 0", Due.state(x));
        DUE.is("undoCount() after " + text, 1, x.undoCount());
    }

    /** "The depth of a node without operands is 1, that of any other node is 1 plus the greatest depth of its operands." */
    private static void depths() {
        adds("7", 1, 1);
        adds("a", 1, 1);
        adds("-a", 2, 2);
        adds("a+b", 3, 2);
        adds("a*-b", 4, 3);
        adds("-a*b", 4, 3);
        adds("a*-b+c", 6, 4);
        adds("c-a*-b", 6, 4);
        adds("(a+b)*(c+d)", 7, 3);
        adds("a*b+c*--d", 9, 5);
        adds("-(a*b)+c", 6, 4);
    }

    /** "A formula has at most 31 nodes and at most the depth 8", when it is added. */
    private static void limitsWhenAdded() {
        adds(NODES_30, 30, 6);
        adds(NODES_31, 31, 6);
        refusesToAdd("-(" + NODES_31 + ")");
        refusesToAdd("-(" + NODES_30 + ")+a");
        adds(DEPTH_8, 15, 8);
        adds("1-(2-(a-(b-(c-(d-(e-f))))))", 15, 8);
        adds("------(-a)", 8, 8);
        refusesToAdd(DEPTH_8 + "+3");
        refusesToAdd("-(" + DEPTH_8 + ")");
        refusesToAdd("a*(" + DEPTH_8 + ")");
        refusesToAdd("a-(a-(a-(a-(a-(a-(a-a*a))))))");
        refusesToAdd("------(--a)");
        // Both limits at once, and one of them exceeded.
        String start = "a+b+c+d+e*(a+b)+(f+a*b)+(c+a*(b+c))";
        adds(start + "+-a", 30, 8);
        adds(start + "+a*b", 31, 8);
        refusesToAdd(start + "+a*-b");
        refusesToAdd("-(" + start + "+-a)");
    }

    private static void substitutes(String text, String by, int nodes, int depth) {
        ExpressionCompiler x = Due.compilerWith(text, by);
        DUE.is("substitute " + by + " for e in " + text, nodes, Due.outcome(() -> x.substitute(0, 'e', 1)));
        DUE.is("nodeCount of " + text, nodes, x.nodeCount(0));
        DUE.is("depth of " + text, depth, x.depth(0));
    }

    private static void refusesToSubstitute(String text, String by) {
        ExpressionCompiler x = Due.compilerWith(text, by);
        String before = Due.state(x);
        DUE.fails("substitute " + by + " for e in " + text, TOO_LARGE, () -> x.substitute(0, 'e', 1));
        DUE.is("state after substitute in " + text, before, Due.state(x));
        DUE.is("undoCount() after substitute in " + text, 2, x.undoCount());
    }

    /** The same limits for substitute: "if the formula would have more than 31 nodes, or a depth of more than 8". */
    private static void limitsWhenSubstituted() {
        substitutes(NODES_31, "f", 31, 6);
        substitutes(NODES_30, "-f", 31, 7);
        refusesToSubstitute(NODES_31, "-f");
        refusesToSubstitute(NODES_30, "--f");
        refusesToSubstitute(NODES_30, "a+b");
        substitutes("e", NODES_31, 31, 6);
        substitutes("e", DEPTH_8, 15, 8);
        substitutes("-e", "-a*b*c*d*e*f", 13, 8);
        refusesToSubstitute("-e", DEPTH_8);
        refusesToSubstitute("a*e", "------(-a)");
        substitutes("a*e", "------a", 9, 8);
        substitutes("------e", "-a", 8, 8);
        refusesToSubstitute("------e", "--a");
        // Each of the e counts.
        substitutes("e*e*(e*e)+e*e*(e*e)", "-a", 23, 5);
        substitutes("e*e*(e*e)+e*e*(e*e)", "a*b", 31, 5);
        refusesToSubstitute("e*e*(e*e)+e*e*(e*e)", "a*-b");
        // What does not occur is not inserted, however large it is.
        substitutes("a", NODES_31, 1, 1);
        substitutes("-a", DEPTH_8, 2, 2);
    }

    /** "index of the formula that replaces the variable, which may be the same". */
    private static void substitutesItself() {
        ExpressionCompiler x = Due.compilerWith("e*e*(e*e)", "a+a+a", "b-e", "e", "a");
        DUE.is("substitute e*e*(e*e) by itself", 31, x.substitute(0, 'e', 0));
        DUE.is("text of 31 nodes", "e*e*(e*e)*(e*e*(e*e))*(e*e*(e*e)*(e*e*(e*e)))", Due.text(x, 0));
        DUE.fails("substitute 31 nodes by themselves", TOO_LARGE, () -> x.substitute(0, 'e', 0));
        DUE.is("substitute b-e by itself", 5, x.substitute(2, 'e', 2));
        DUE.is("text", "b-(b-e)", Due.text(x, 2));
        DUE.is("substitute e by itself", 1, x.substitute(3, 'e', 3));
        DUE.is("text", "e", Due.text(x, 3));
        DUE.is("substitute what does not occur by itself", 1, x.substitute(4, 'e', 4));
        DUE.is("the other formula stays", "a+a+a", Due.text(x, 1));
    }

    private static void derives(String text, int nodes, int depth) {
        ExpressionCompiler x = Due.compilerWith(text);
        DUE.is("differentiate " + text, 1, Due.outcome(() -> x.differentiate(0, 'a')));
        DUE.is("nodeCount of the derivative of " + text, nodes, Due.outcome(() -> x.nodeCount(1)));
        DUE.is("depth of the derivative of " + text, depth, Due.outcome(() -> x.depth(1)));
        DUE.is("removedNodes() after differentiate " + text, 0, x.removedNodes());
    }

    private static void refusesToDerive(String text) {
        ExpressionCompiler x = Due.compilerWith(text);
        String before = Due.state(x);
        DUE.fails("differentiate " + text, TOO_LARGE, () -> x.differentiate(0, 'a'));
        DUE.is("state after differentiate " + text, before, Due.state(x));
        DUE.is("undoCount() after differentiate " + text, 1, x.undoCount());
    }

    /** The same limits for differentiate, where "the simplified one counts". */
    private static void limitsWhenDerived() {
        derives("a*(b+c+d)*(a*(b+c+(d+e)))", 31, 6);
        refusesToDerive("-(a*(b+c+d)*(a*(b+c+(d+e))))");
        refusesToDerive("a*(b+c+-d)*(a*(b+c+(d+e)))");
        derives("a*(b+c-d)*(a*(b+(c-d*e)))", 31, 7);
        derives("(a+b+c+d+e+f)*(a*b)", 17, 8);
        refusesToDerive("-((a+b+c+d+e+f)*(a*b))");
        refusesToDerive("-(a+b+c+d+e+f)*(a*b)");
        // The derivatives of these have far more nodes, or levels, before they are simplified.
        derives(NODES_31, 17, 5);
        derives("b*c*d*e*f*2*3*a", 13, 7);
        derives("b*(c*(d*(e*(f*(1*(2*a))))))", 11, 6);
        derives("2*(3*(4*(5*(6*(7*(8*a))))))", 1, 1);
        derives("b*c*d*e*f*b*c*d", 1, 1);
        derives("------(-a)", 1, 1);
    }

    /** "At most 6 formulas exist; their indices start at 0 and follow the order in which they were added." */
    private static void sixFormulas() {
        ExpressionCompiler x = new ExpressionCompiler();
        String[] texts = {"a", "b+1", "c", "d*a", "e"};
        for (int i = 0; i < texts.length; i++) {
            DUE.is("addFormula() of " + texts[i], i, Due.add(x, texts[i]));
            DUE.is("formulaCount() after " + texts[i], i + 1, x.formulaCount());
        }
        DUE.is("differentiate to the sixth", 5, x.differentiate(3, 'd'));
        DUE.is("formulaCount() of six", 6, x.formulaCount());
        DUE.is("state of six", "a b+1 c d*a e a 0 0 0 0 0 0 2 0", Due.state(x));
        Due.feed(x, "f");
        DUE.fails("addFormula() of the seventh", IllegalStateException.class, () -> x.addFormula());
        DUE.fails("differentiate to the seventh", IllegalStateException.class, () -> x.differentiate(0, 'a'));
        DUE.is("formulaCount() after the refusals", 6, x.formulaCount());
        DUE.is("state after the refusals", "a b+1 c d*a e a 0 0 0 0 0 0 2 0", Due.state(x));
        DUE.is("substitute with six formulas", 3, x.substitute(1, 'f', 5));
        DUE.is("simplify with six formulas", 0, x.simplify(5));
        x.removeFormula(2);
        DUE.is("addFormula() of the sixth again", 5, Due.add(x, "f"));
        Due.feed(x, "f");
        DUE.fails("addFormula() of the seventh again", IllegalStateException.class, () -> x.addFormula());
        x.removeFormula(0);
        DUE.is("differentiate to the sixth again", 5, x.differentiate(0, 'b'));
        DUE.is("state in the end", "b+1 d*a e a f 1 0 0 0 0 0 0 2 0", Due.state(x));
    }

    /** "When a formula is removed, the indices of the later ones decrease by 1." */
    private static void indicesDecrease() {
        String all = "abcdef";
        for (int removed = 0; removed < 6; removed++) {
            ExpressionCompiler x = Due.compilerWith("a", "b", "c", "d", "e", "f");
            DUE.is("removeFormula(" + removed + ")", 5, x.removeFormula(removed));
            DUE.is("formulaCount() without " + removed, 5, x.formulaCount());
            for (int i = 0; i < 5; i++) {
                DUE.is("formula " + i + " without " + removed, all.substring(i < removed ? i : i + 1).substring(0, 1),
                        Due.text(x, i));
            }
            DUE.fails("writeFormula(5) without " + removed, NO_INDEX, () -> x.writeFormula(5));
        }
    }

    private static void refusesIndex(String name, AtIndex call) {
        for (int count : new int[] {0, 1, 5, 6}) {
            ExpressionCompiler x = new ExpressionCompiler();
            for (int i = 0; i < count; i++) {
                Due.add(x, "a+b");
            }
            for (int index : new int[] {-1, count, count + 1, Integer.MIN_VALUE, Integer.MAX_VALUE}) {
                DUE.fails(name + " at " + index + " of " + count, NO_INDEX, () -> call.ask(x, index));
            }
            DUE.is("undoCount() after " + name, count, x.undoCount());
            DUE.is("formulaCount() after " + name, count, x.formulaCount());
        }
        for (int index = 0; index < 5; index++) {
            int known = index;
            ExpressionCompiler x = Due.compilerWith("a+b", "a+b", "a+b", "a+b", "a+b");
            Object answer = Due.outcome(() -> call.ask(x, known));
            DUE.is(name + " at " + index + " answers", false, answer.toString().startsWith("throws"));
        }
    }

    /** "If there is no such formula": indices one too small and one too large, for every method that takes one. */
    private static void indicesOfFormulas() {
        refusesIndex("removeFormula", (x, index) -> x.removeFormula(index));
        refusesIndex("simplify", (x, index) -> x.simplify(index));
        refusesIndex("differentiate", (x, index) -> x.differentiate(index, 'a'));
        refusesIndex("substitute", (x, index) -> x.substitute(index, 'c', 0));
        refusesIndex("substitute by", (x, index) -> x.substitute(0, 'c', index));
        refusesIndex("nodeCount", (x, index) -> x.nodeCount(index));
        refusesIndex("depth", (x, index) -> x.depth(index));
        refusesIndex("occurrences", (x, index) -> x.occurrences(index, 'a'));
        refusesIndex("degree", (x, index) -> x.degree(index));
        refusesIndex("isConstant", (x, index) -> x.isConstant(index));
        refusesIndex("isSame", (x, index) -> x.isSame(index, 0));
        refusesIndex("isSame second", (x, index) -> x.isSame(0, index));
        refusesIndex("distinctParts", (x, index) -> x.distinctParts(index));
        refusesIndex("distinctPartsByComparison", (x, index) -> x.distinctPartsByComparison(index));
        refusesIndex("commonParts", (x, index) -> x.commonParts(index, 0));
        refusesIndex("commonParts second", (x, index) -> x.commonParts(0, index));
        refusesIndex("value", (x, index) -> x.value(index));
        refusesIndex("valueByCode", (x, index) -> x.valueByCode(index));
        refusesIndex("slope", (x, index) -> x.slope(index, 'a'));
        refusesIndex("slopeByDerivative", (x, index) -> x.slopeByDerivative(index, 'a'));
        refusesIndex("neededRegisters", (x, index) -> x.neededRegisters(index));
        refusesIndex("neededRegistersByOrders", (x, index) -> x.neededRegistersByOrders(index));
        refusesIndex("codeLength", (x, index) -> x.codeLength(index));
        refusesIndex("storeCount", (x, index) -> x.storeCount(index));
        refusesIndex("slotCount", (x, index) -> x.slotCount(index));
        refusesIndex("leastRegistersWithoutStore", (x, index) -> x.leastRegistersWithoutStore(index));
        refusesIndex("instructionKind", (x, index) -> x.instructionKind(index, 0));
        refusesIndex("instructionRegister", (x, index) -> x.instructionRegister(index, 0));
        refusesIndex("writeInstruction", (x, index) -> x.writeInstruction(index, 0));
        refusesIndex("writeFormula", (x, index) -> x.writeFormula(index));
        refusesIndex("storeShare", (x, index) -> x.storeShare(index));
    }

    /** "If there is no such instruction" and "no such character": one too small and one too large. */
    private static void indicesInside() {
        String[] texts = {"a+b", "-a*b", "a+b*-c", "5"};
        int[] lengths = {3, 4, 6, 1};
        String[] last = {"r0=r0+r1", "r0=r0*r1", "r0=r1+r0", "r0=5"};
        ExpressionCompiler x = Due.compilerWith(texts);
        for (int f = 0; f < texts.length; f++) {
            int formula = f;
            int length = lengths[f];
            DUE.is("codeLength of " + texts[f], length, x.codeLength(f));
            for (int index : new int[] {-1, length, length + 1, Integer.MIN_VALUE, Integer.MAX_VALUE}) {
                DUE.fails("instructionKind " + index + " of " + texts[f], NO_INDEX,
                        () -> x.instructionKind(formula, index));
                DUE.fails("instructionRegister " + index + " of " + texts[f], NO_INDEX,
                        () -> x.instructionRegister(formula, index));
                DUE.fails("writeInstruction " + index + " of " + texts[f], NO_INDEX,
                        () -> x.writeInstruction(formula, index));
            }
            DUE.is("register of the first", 0, x.instructionRegister(f, 0));
            DUE.is("register of the last", 0, x.instructionRegister(f, length - 1));
            int written = x.writeInstruction(f, length - 1);
            DUE.is("the last instruction of " + texts[f], last[f], Due.output(x, written));
            for (int index : new int[] {-1, written, written + 1, Integer.MIN_VALUE, Integer.MAX_VALUE}) {
                DUE.fails("outputChar(" + index + ") of " + last[f], NO_INDEX, () -> x.outputChar(index));
            }
        }
        // With one register, a+b stores: its code has one instruction more.
        x.setRegisters(1);
        DUE.is("instructionKind 3 of a+b", '+', x.instructionKind(0, 3));
        DUE.fails("instructionKind 4 of a+b", NO_INDEX, () -> x.instructionKind(0, 4));
    }

    /** "Returns the formula at a rank ..., counted from 0; if there is no such rank". */
    private static void ranks() {
        for (int count = 0; count <= 6; count++) {
            ExpressionCompiler x = new ExpressionCompiler();
            for (int i = 0; i < count; i++) {
                Due.add(x, "-".repeat(i) + "a");
            }
            for (int rank = 0; rank < count; rank++) {
                DUE.is("formulaBySize(" + rank + ") of " + count, count - 1 - rank, x.formulaBySize(rank));
            }
            for (int rank : new int[] {-1, count, count + 1, 6, Integer.MIN_VALUE, Integer.MAX_VALUE}) {
                DUE.fails("formulaBySize(" + rank + ") of " + count, NoSuchElementException.class,
                        () -> x.formulaBySize(rank));
            }
        }
    }

    /** "By number of nodes in descending order, then by depth in descending order, then by index in ascending order." */
    private static void ties() {
        ranked(new String[] {"a", "b", "c", "d", "e", "f"}, 0, 1, 2, 3, 4, 5);
        ranked(new String[] {"a", "-b", "--c", "---d", "----e", "-----f"}, 5, 4, 3, 2, 1, 0);
        ranked(new String[] {"a*b*(c*d)", "a*b*c*d", "-(a*b*-c)", "a*b*(c*d)", "a*b*c*d", "a"}, 1, 2, 4, 0, 3, 5);
        ranked(new String[] {"--a", "a+b", "--b", "1-2", "----a", "a+b+c"}, 4, 5, 0, 2, 1, 3);
        ranked(new String[] {"a+b", "-----a", "a+b+c+d", "b"}, 2, 1, 0, 3);
    }

    private static void ranked(String[] texts, int... order) {
        ExpressionCompiler x = Due.compilerWith(texts);
        for (int rank = 0; rank < order.length; rank++) {
            DUE.is("formulaBySize(" + rank + ") of " + String.join(" ", texts), order[rank], x.formulaBySize(rank));
        }
    }

    private static void refusesLetter(String name, OfLetter call) {
        ExpressionCompiler x = Due.compilerWith("a+f");
        for (char letter : new char[] {'`', 'g', 'A', 'F', '0', '\u0000', '\u0161', '\uff41', '\uffff'}) {
            DUE.fails(name + " of " + (int) letter, NO_LETTER, () -> call.ask(x, letter));
        }
        DUE.is("undoCount() after " + name, 1, x.undoCount());
        for (char letter = 'a'; letter <= 'f'; letter++) {
            char known = letter;
            Object answer = Due.outcome(() -> call.ask(Due.compilerWith("a+f"), known));
            DUE.is(name + " of " + letter + " answers", false, answer.toString().startsWith("throws"));
        }
    }

    /** "If there is no such variable": just outside 'a' to 'f', for every method that takes one. */
    private static void variables() {
        refusesLetter("differentiate", (x, letter) -> x.differentiate(0, letter));
        refusesLetter("substitute", (x, letter) -> x.substitute(0, letter, 0));
        refusesLetter("setVariable", (x, letter) -> x.setVariable(letter, 1));
        refusesLetter("variable", (x, letter) -> x.variable(letter));
        refusesLetter("occurrences", (x, letter) -> x.occurrences(0, letter));
        refusesLetter("slope", (x, letter) -> x.slope(0, letter));
        refusesLetter("slopeByDerivative", (x, letter) -> x.slopeByDerivative(0, letter));
    }

    /** "The value, from -999 to 999", for each variable, "initially 0". */
    private static void values() {
        ExpressionCompiler x = new ExpressionCompiler();
        for (char letter = 'a'; letter <= 'f'; letter++) {
            char known = letter;
            DUE.is("variable(" + letter + ") at first", 0, x.variable(letter));
            DUE.is("setVariable(" + letter + ",-999)", 0, x.setVariable(letter, -999));
            DUE.is("variable(" + letter + ")", -999, x.variable(letter));
            for (int value : new int[] {-1000, 1000, Integer.MIN_VALUE, Integer.MAX_VALUE}) {
                DUE.fails("setVariable(" + letter + "," + value + ")", NO_LETTER, () -> x.setVariable(known, value));
                DUE.is("variable(" + letter + ") after the refusal", -999, x.variable(letter));
            }
            DUE.is("setVariable(" + letter + ",999)", -999, x.setVariable(letter, 999));
            DUE.is("variable(" + letter + ")", 999, x.variable(letter));
            DUE.is("setVariable(" + letter + ",0)", 999, x.setVariable(letter, 0));
            DUE.is("setVariable(" + letter + ") again", 0, x.setVariable(letter, letter));
        }
        DUE.is("state", "97 98 99 100 101 102 2 0", Due.state(x));
    }

    /** "The number of registers, 1 to 4", "initially 2". */
    private static void registers() {
        ExpressionCompiler x = new ExpressionCompiler();
        int previous = 2;
        for (int number : new int[] {1, 4, 3, 2, 2, 4, 1}) {
            DUE.is("registers()", previous, x.registers());
            for (int wrong : new int[] {0, 5, -1, Integer.MIN_VALUE, Integer.MAX_VALUE}) {
                DUE.fails("setRegisters(" + wrong + ")", NO_LETTER, () -> x.setRegisters(wrong));
                DUE.is("registers() after the refusal", previous, x.registers());
            }
            DUE.is("setRegisters(" + number + ")", previous, x.setRegisters(number));
            previous = number;
        }
        DUE.is("registers() in the end", 1, x.registers());
        DUE.is("undoCount()", 7, x.undoCount());
    }

    /** "Throws ArithmeticException if there are no formulas." */
    private static void noFormulas() {
        ExpressionCompiler x = new ExpressionCompiler();
        DUE.is("formulaCount() of none", 0, x.formulaCount());
        DUE.is("isConsistent() of none", true, x.isConsistent());
        DUE.fails("meanNodes() of none", ArithmeticException.class, () -> x.meanNodes());
        Due.add(x, "a+b");
        DUE.is("meanNodes() of one", 3.0, x.meanNodes());
        Due.add(x, "-a");
        DUE.is("meanNodes() of two", 2.5, x.meanNodes());
        x.removeFormula(0);
        DUE.is("meanNodes() of the other", 2.0, x.meanNodes());
        x.removeFormula(0);
        DUE.fails("meanNodes() of none again", ArithmeticException.class, () -> x.meanNodes());
        x.undo();
        DUE.is("meanNodes() after undo", 2.0, x.meanNodes());
        ExpressionCompiler six = Due.compilerWith(NODES_31, NODES_31, NODES_31, NODES_31, NODES_31, NODES_30);
        DUE.is("meanNodes() of six", 185.0 / 6.0, six.meanNodes());
    }

    public static void main(String[] args) {
        depths();
        limitsWhenAdded();
        limitsWhenSubstituted();
        substitutesItself();
        limitsWhenDerived();
        sixFormulas();
        indicesDecrease();
        indicesOfFormulas();
        indicesInside();
        ranks();
        ties();
        variables();
        values();
        registers();
        noFormulas();
        DUE.end();
    }
}
