import java.util.NoSuchElementException;

/** "Errors": a refused call leaves the state unchanged, and the exception listed first is thrown. */
final class RefusalTest {
    private interface On {
        Object ask(ExpressionCompiler x);
    }

    private static final Due DUE = new Due();
    private static final Class<IndexOutOfBoundsException> NO_INDEX = IndexOutOfBoundsException.class;
    private static final Class<IllegalArgumentException> WRONG = IllegalArgumentException.class;
    private static final Class<IllegalStateException> NOT_NOW = IllegalStateException.class;
    private static final Class<UnsupportedOperationException> TOO_LARGE = UnsupportedOperationException.class;
    private static final Class<NoSuchElementException> NONE = NoSuchElementException.class;

    private static final String NODES_31 = "a*b*c+d*e*f+(a*b*c+d*a*f)+a*(b*c+d)";
    private static final String NEEDS_5 = "(a*b-a*b)*(a*b-a*b)+(a*b-a*b)*(a*b-a*b)";
    private static final String DEPTH_9 = "a+a+a+a+a+a+a+a+a";

    /** What a compiler holds here: a large derivative at 0, 31 nodes at 1, and five needed registers at 2. */
    private static ExpressionCompiler busy(int formulas) {
        ExpressionCompiler x = Due.compilerWith("a*a*a*a*a*a*a", NODES_31);
        x.setRegisters(1);
        x.setVariable('b', 7);
        x.save();
        Due.add(x, NEEDS_5);
        Due.add(x, "c+0");
        x.simplify(3);
        x.setVariable('b', -8);
        x.setRegisters(3);
        for (int i = 4; i < formulas; i++) {
            Due.add(x, "-f");
        }
        Due.feed(x, "a+b)");
        Due.outcome(() -> x.addFormula());
        x.writeFormula(3);
        x.writeInstruction(3, 0);
        Due.feed(x, "b*c");
        return x;
    }

    /** All that later calls can answer: as it asks undo, restore and addFormula too, it comes last. */
    private static String everything(ExpressionCompiler x) {
        StringBuilder text = new StringBuilder(output(x));
        text.append(' ').append(Due.outcome(() -> x.errorPosition()));
        text.append(' ').append(x.undoCount()).append('\n').append(Due.state(x)).append('\n');
        for (int left = x.undoCount(); left > 0; left--) {
            text.append(x.undo()).append(": ").append(Due.state(x)).append('\n');
        }
        text.append(Due.outcome(() -> x.undo())).append(' ').append(Due.outcome(() -> x.restore()));
        text.append(' ').append(Due.state(x)).append('\n');
        Object added = Due.outcome(() -> x.addFormula());
        return text.append(added).append(' ').append(Due.state(x)).toString();
    }

    private static String output(ExpressionCompiler x) {
        StringBuilder text = new StringBuilder();
        for (int index = 0; index < 100; index++) {
            int at = index;
            Object answer = Due.outcome(() -> x.outputChar(at));
            if (answer instanceof Character character) {
                text.append(character.charValue());
            } else {
                return text.append(' ').append(answer).toString();
            }
        }
        return text.toString();
    }

    private static final int SMALL = 4;
    private static final int FULL = 6;

    private static void refused(String name, int formulas, Class<? extends RuntimeException> want, On call) {
        ExpressionCompiler x = busy(formulas);
        DUE.fails(name + " with " + formulas, want, () -> call.ask(x));
        DUE.is("everything after " + name + " with " + formulas, everything(busy(formulas)), everything(x));
    }

    private static void refusedByBoth(String name, Class<? extends RuntimeException> want, On call) {
        refused(name, SMALL, want, call);
        refused(name, FULL, want, call);
    }

    /** The comparison above would be worthless if it did not see each part of the state. */
    private static void comparisonSees() {
        On[] changes = {
            x -> x.feed('+'), x -> x.clearBuffer(), x -> x.addFormula(), x -> x.removeFormula(3), x -> x.simplify(3),
            x -> x.differentiate(3, 'c'), x -> x.substitute(3, 'c', 3), x -> x.setVariable('b', -8),
            x -> x.setVariable('f', 1), x -> x.setRegisters(3), x -> x.writeFormula(1), x -> x.undo(), x -> x.save(),
            x -> x.restore(),
        };
        for (int i = 0; i < changes.length; i++) {
            ExpressionCompiler x = busy(SMALL);
            changes[i].ask(x);
            DUE.is("change " + i + " is seen", false, everything(busy(SMALL)).equals(everything(x)));
        }
        DUE.is("the same is the same", everything(busy(SMALL)), everything(busy(SMALL)));
    }

    private static void indices(int formulas) {
        for (int bad : new int[] {-1, formulas}) {
            refused("removeFormula " + bad, formulas, NO_INDEX, x -> x.removeFormula(bad));
            refused("simplify " + bad, formulas, NO_INDEX, x -> x.simplify(bad));
            refused("differentiate " + bad, formulas, NO_INDEX, x -> x.differentiate(bad, 'a'));
            refused("substitute " + bad, formulas, NO_INDEX, x -> x.substitute(bad, 'a', 0));
            refused("substitute by " + bad, formulas, NO_INDEX, x -> x.substitute(3, 'c', bad));
            refused("nodeCount " + bad, formulas, NO_INDEX, x -> x.nodeCount(bad));
            refused("depth " + bad, formulas, NO_INDEX, x -> x.depth(bad));
            refused("occurrences " + bad, formulas, NO_INDEX, x -> x.occurrences(bad, 'a'));
            refused("degree " + bad, formulas, NO_INDEX, x -> x.degree(bad));
            refused("isConstant " + bad, formulas, NO_INDEX, x -> x.isConstant(bad));
            refused("isSame " + bad, formulas, NO_INDEX, x -> x.isSame(bad, 1));
            refused("isSame second " + bad, formulas, NO_INDEX, x -> x.isSame(1, bad));
            refused("distinctParts " + bad, formulas, NO_INDEX, x -> x.distinctParts(bad));
            refused("distinctPartsByComparison " + bad, formulas, NO_INDEX, x -> x.distinctPartsByComparison(bad));
            refused("commonParts " + bad, formulas, NO_INDEX, x -> x.commonParts(bad, 1));
            refused("commonParts second " + bad, formulas, NO_INDEX, x -> x.commonParts(1, bad));
            refused("value " + bad, formulas, NO_INDEX, x -> x.value(bad));
            refused("valueByCode " + bad, formulas, NO_INDEX, x -> x.valueByCode(bad));
            refused("slope " + bad, formulas, NO_INDEX, x -> x.slope(bad, 'a'));
            refused("slopeByDerivative " + bad, formulas, NO_INDEX, x -> x.slopeByDerivative(bad, 'a'));
            refused("neededRegisters " + bad, formulas, NO_INDEX, x -> x.neededRegisters(bad));
            refused("neededRegistersByOrders " + bad, formulas, NO_INDEX, x -> x.neededRegistersByOrders(bad));
            refused("codeLength " + bad, formulas, NO_INDEX, x -> x.codeLength(bad));
            refused("storeCount " + bad, formulas, NO_INDEX, x -> x.storeCount(bad));
            refused("slotCount " + bad, formulas, NO_INDEX, x -> x.slotCount(bad));
            refused("leastRegistersWithoutStore " + bad, formulas, NO_INDEX, x -> x.leastRegistersWithoutStore(bad));
            refused("instructionKind " + bad, formulas, NO_INDEX, x -> x.instructionKind(bad, 0));
            refused("instructionRegister " + bad, formulas, NO_INDEX, x -> x.instructionRegister(bad, 0));
            refused("writeInstruction " + bad, formulas, NO_INDEX, x -> x.writeInstruction(bad, 0));
            refused("writeFormula " + bad, formulas, NO_INDEX, x -> x.writeFormula(bad));
            refused("storeShare " + bad, formulas, NO_INDEX, x -> x.storeShare(bad));
            refused("formulaBySize " + bad, formulas, NONE, x -> x.formulaBySize(bad));
        }
    }

    private static void indicesInside() {
        for (int bad : new int[] {-1, 4, 100}) {
            refusedByBoth("instructionKind " + bad, NO_INDEX, x -> x.instructionKind(3, bad));
            refusedByBoth("instructionRegister " + bad, NO_INDEX, x -> x.instructionRegister(3, bad));
            refusedByBoth("writeInstruction " + bad, NO_INDEX, x -> x.writeInstruction(3, bad));
            refusedByBoth("outputChar " + bad, NO_INDEX, x -> x.outputChar(bad));
        }
        refusedByBoth("leastRegistersWithoutStore", NONE, x -> x.leastRegistersWithoutStore(2));
    }

    private static void lettersAndNumbers() {
        for (char bad : new char[] {'`', 'g'}) {
            refused("differentiate by " + bad, SMALL, WRONG, x -> x.differentiate(3, bad));
            refusedByBoth("substitute for " + bad, WRONG, x -> x.substitute(3, bad, 0));
            refusedByBoth("setVariable " + bad, WRONG, x -> x.setVariable(bad, 5));
            refusedByBoth("variable " + bad, WRONG, x -> x.variable(bad));
            refusedByBoth("occurrences " + bad, WRONG, x -> x.occurrences(3, bad));
            refusedByBoth("slope " + bad, WRONG, x -> x.slope(3, bad));
            refusedByBoth("slopeByDerivative " + bad, WRONG, x -> x.slopeByDerivative(3, bad));
        }
        for (int bad : new int[] {-1000, 1000}) {
            refusedByBoth("setVariable to " + bad, WRONG, x -> x.setVariable('b', bad));
            refusedByBoth("setVariable of no variable to " + bad, WRONG, x -> x.setVariable('g', bad));
        }
        for (int bad : new int[] {0, 5}) {
            refusedByBoth("setRegisters " + bad, WRONG, x -> x.setRegisters(bad));
        }
    }

    private static void limits() {
        refused("differentiate to too many nodes", SMALL, TOO_LARGE, x -> x.differentiate(0, 'a'));
        refused("differentiate to the seventh", FULL, NOT_NOW, x -> x.differentiate(3, 'c'));
        refusedByBoth("substitute to too many nodes", TOO_LARGE, x -> x.substitute(1, 'a', 0));
        refusedByBoth("substitute by itself to too many nodes", TOO_LARGE, x -> x.substitute(1, 'e', 1));
    }

    /** "If several exceptions apply, the one listed first is thrown", for the methods that list several. */
    private static void orderOfExceptions() {
        refused("differentiate: index, variable, room", FULL, NO_INDEX, x -> x.differentiate(6, 'g'));
        refused("differentiate: index, variable", SMALL, NO_INDEX, x -> x.differentiate(-1, 'g'));
        refused("differentiate: index, room", FULL, NO_INDEX, x -> x.differentiate(6, 'a'));
        refused("differentiate: variable, room", FULL, WRONG, x -> x.differentiate(0, 'g'));
        refused("differentiate: room, size", FULL, NOT_NOW, x -> x.differentiate(0, 'a'));
        refused("substitute: index, variable", SMALL, NO_INDEX, x -> x.substitute(4, 'g', 0));
        refused("substitute: index of by, variable", SMALL, NO_INDEX, x -> x.substitute(0, 'g', 4));
        refused("substitute: both indices, variable", SMALL, NO_INDEX, x -> x.substitute(-1, '`', -1));
        refused("substitute: index of by, size", FULL, NO_INDEX, x -> x.substitute(1, 'a', 6));
        refused("substitute: variable, size", FULL, WRONG, x -> x.substitute(1, 'g', 0));
        refused("occurrences: index, variable", SMALL, NO_INDEX, x -> x.occurrences(4, 'g'));
        refused("slope: index, variable", SMALL, NO_INDEX, x -> x.slope(4, 'g'));
        refused("slopeByDerivative: index, variable", SMALL, NO_INDEX, x -> x.slopeByDerivative(-1, '`'));
        refused("leastRegistersWithoutStore: index", FULL, NO_INDEX, x -> x.leastRegistersWithoutStore(6));
    }

    /** For addFormula the buffer is emptied, and the error position of a malformed text is kept. */
    private static void addFormula() {
        addRefused("malformed", SMALL, "a+*", WRONG, 2);
        addRefused("empty", SMALL, "", WRONG, 0);
        addRefused("malformed, room", FULL, "a+*", WRONG, 2);
        addRefused("empty, room", FULL, "", WRONG, 0);
        addRefused("malformed, nodes", SMALL, NODES_31 + "+a+", WRONG, 38);
        addRefused("room", FULL, "a", NOT_NOW, 3);
        addRefused("room, depth", FULL, DEPTH_9, NOT_NOW, 3);
        addRefused("room, nodes", FULL, "-(" + NODES_31 + ")", NOT_NOW, 3);
        addRefused("depth", SMALL, DEPTH_9, TOO_LARGE, 3);
        addRefused("nodes", SMALL, "-(" + NODES_31 + ")", TOO_LARGE, 3);
    }

    private static void addRefused(String name, int formulas, String text, Class<? extends RuntimeException> want,
            int position) {
        ExpressionCompiler x = busy(formulas);
        x.clearBuffer();
        Due.feed(x, text);
        DUE.fails("addFormula: " + name, want, () -> x.addFormula());
        DUE.is("errorPosition() after addFormula: " + name, position, x.errorPosition());
        DUE.is("clearBuffer() after addFormula: " + name, 0, x.clearBuffer());
        ExpressionCompiler same = busy(formulas);
        same.clearBuffer();
        String unchanged = everything(same).replaceFirst(" 3 ", " " + position + " ");
        DUE.is("everything after addFormula: " + name, unchanged, everything(x));
    }

    private static void buffer() {
        ExpressionCompiler x = busy(SMALL);
        ExpressionCompiler same = busy(SMALL);
        // With b*c, which both hold already, these are 60 characters.
        String more = "+((((((12))))))*((((((b))))))+((((((a))))))*((((((b))))))";
        Due.feed(x, more);
        Due.feed(same, more);
        DUE.fails("feed to 60", NOT_NOW, () -> x.feed('a'));
        DUE.fails("feed to 60 again", NOT_NOW, () -> x.feed(')'));
        String after = everything(x);
        DUE.is("everything after feed", everything(same), after);
        DUE.is("the 60 characters are read", true, after.contains("b*c+12*b+a*b"));
        DUE.is("clearBuffer()", 0, x.clearBuffer());
    }

    /** Undo, save and restore before there is anything to undo or to restore. */
    private static void nothingToUndo() {
        ExpressionCompiler x = new ExpressionCompiler();
        DUE.fails("undo() of a new object", NOT_NOW, () -> x.undo());
        DUE.fails("restore() of a new object", NOT_NOW, () -> x.restore());
        DUE.fails("undo() again", NOT_NOW, () -> x.undo());
        DUE.is("everything after undo() and restore()", everything(new ExpressionCompiler()), everything(x));
        ExpressionCompiler y = unsaved();
        DUE.fails("restore() without save()", NOT_NOW, () -> y.restore());
        DUE.is("everything after restore()", everything(unsaved()), everything(y));
        ExpressionCompiler z = unsaved();
        ExpressionCompiler same = unsaved();
        for (int left = 3; left > 0; left--) {
            z.undo();
            same.undo();
        }
        DUE.fails("undo() of what has been undone", NOT_NOW, () -> z.undo());
        DUE.is("everything after undo()", everything(same), everything(z));
    }

    private static ExpressionCompiler unsaved() {
        ExpressionCompiler x = Due.compilerWith("a+b");
        x.setVariable('a', 5);
        x.setRegisters(4);
        Due.feed(x, "c");
        return x;
    }

    private static void noErrors() {
        ExpressionCompiler x = unsaved();
        DUE.fails("errorPosition()", NONE, () -> x.errorPosition());
        DUE.fails("outputChar(0)", NO_INDEX, () -> x.outputChar(0));
        DUE.fails("formulaBySize(1)", NONE, () -> x.formulaBySize(1));
        DUE.is("everything after questions", everything(unsaved()), everything(x));
        ExpressionCompiler y = unsaved();
        y.removeFormula(0);
        DUE.fails("meanNodes()", ArithmeticException.class, () -> y.meanNodes());
        DUE.is("undo() after meanNodes()", 3, y.undo());
        DUE.is("everything after meanNodes() and undo()", everything(unsaved()), everything(y));
    }

    /** What answers leaves the state unchanged too, but for the output. */
    private static void questions() {
        On[] asked = {
            x -> x.formulaCount(), x -> x.variable('b'), x -> x.registers(), x -> x.nodeCount(1), x -> x.depth(1),
            x -> x.occurrences(1, 'a'), x -> x.degree(1), x -> x.isConstant(1), x -> x.isSame(0, 1),
            x -> x.distinctParts(1), x -> x.distinctPartsByComparison(1), x -> x.commonParts(0, 1), x -> x.value(1),
            x -> x.valueByCode(1), x -> x.slope(1, 'a'), x -> x.slopeByDerivative(1, 'a'), x -> x.neededRegisters(1),
            x -> x.neededRegistersByOrders(1), x -> x.codeLength(1), x -> x.storeCount(1), x -> x.slotCount(1),
            x -> x.leastRegistersWithoutStore(1), x -> x.instructionKind(1, 1), x -> x.instructionRegister(1, 1),
            x -> x.outputChar(0), x -> x.formulaBySize(0), x -> x.removedNodes(), x -> x.meanNodes(),
            x -> x.storeShare(1), x -> x.isConsistent(), x -> x.errorPosition(), x -> x.undoCount(),
        };
        for (int i = 0; i < asked.length; i++) {
            ExpressionCompiler x = busy(SMALL);
            On question = asked[i];
            DUE.is("question " + i + " is answered", false,
                    Due.outcome(() -> question.ask(x)).toString().startsWith("throws"));
            DUE.is("everything after question " + i, everything(busy(SMALL)), everything(x));
        }
    }

    public static void main(String[] args) {
        comparisonSees();
        indices(SMALL);
        indices(FULL);
        indicesInside();
        lettersAndNumbers();
        limits();
        orderOfExceptions();
        addFormula();
        buffer();
        nothingToUndo();
        noErrors();
        questions();
        DUE.end();
    }
}
