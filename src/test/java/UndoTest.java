/** Promises 44 to 47: undo, save and restore. */
final class UndoTest {
    private static final Due DUE = new Due();

    private static ExpressionCompiler busy() {
        ExpressionCompiler x = Due.compilerWith("a*b+0", "c-d");
        x.setVariable('c', 7);
        x.setRegisters(3);
        return x;
    }

    private static void undone(String call, Due.Call change, ExpressionCompiler x) {
        String before = Due.state(x);
        int count = x.undoCount();
        change.make();
        DUE.is("undoCount() after " + call, count + 1, x.undoCount());
        DUE.is("undo() of " + call, count, x.undo());
        DUE.is("undoCount() after undo of " + call, count, x.undoCount());
        DUE.is("state after undo of " + call, before, Due.state(x));
        DUE.is("isConsistent after undo of " + call, true, x.isConsistent());
    }

    private static void eachCall() {
        ExpressionCompiler x = busy();
        undone("addFormula", () -> Due.add(x, "e"), x);
        undone("removeFormula", () -> x.removeFormula(0), x);
        undone("simplify", () -> x.simplify(0), x);
        undone("simplify without change", () -> x.simplify(1), x);
        undone("differentiate", () -> x.differentiate(0, 'a'), x);
        undone("substitute", () -> x.substitute(0, 'a', 1), x);
        undone("substitute without change", () -> x.substitute(0, 'f', 1), x);
        undone("substitute by itself", () -> x.substitute(0, 'a', 0), x);
        undone("setVariable", () -> x.setVariable('c', 8), x);
        undone("setVariable without change", () -> x.setVariable('c', 7), x);
        undone("setRegisters", () -> x.setRegisters(1), x);
        undone("setRegisters without change", () -> x.setRegisters(3), x);
    }

    private static void notRecorded() {
        ExpressionCompiler x = busy();
        x.feed('a');
        x.clearBuffer();
        x.value(0);
        x.slopeByDerivative(0, 'a');
        x.leastRegistersWithoutStore(0);
        x.writeFormula(0);
        x.isConsistent();
        x.save();
        DUE.is("undoCount() after other calls", 4, x.undoCount());
        DUE.fails("removeFormula(2)", IndexOutOfBoundsException.class, () -> x.removeFormula(2));
        DUE.fails("setRegisters(0)", IllegalArgumentException.class, () -> x.setRegisters(0));
        DUE.fails("addFormula()", IllegalArgumentException.class, () -> x.addFormula());
        DUE.is("undoCount() after failures", 4, x.undoCount());
    }

    private static void eightAtMost() {
        ExpressionCompiler x = new ExpressionCompiler();
        for (int value = 1; value <= 20; value++) {
            x.setVariable('a', value);
            DUE.is("undoCount() after " + value, Math.min(value, 8), x.undoCount());
        }
        for (int left = 7; left >= 0; left--) {
            DUE.is("undo() to " + left, left, x.undo());
            DUE.is("variable(a) with " + left, 12 + left, x.variable('a'));
        }
        DUE.fails("undo() of none", IllegalStateException.class, () -> x.undo());
        DUE.is("variable(a) in the end", 12, x.variable('a'));
        x.setVariable('a', 50);
        x.setVariable('a', 60);
        DUE.is("undo() after new calls", 1, x.undo());
        DUE.is("variable(a) after undo", 50, x.variable('a'));
        x.setVariable('a', 70);
        DUE.is("undo() of 70", 1, x.undo());
        DUE.is("undo() of 50", 0, x.undo());
        DUE.is("variable(a) after all", 12, x.variable('a'));
    }

    private static void bufferStays() {
        ExpressionCompiler x = Due.compilerWith("a");
        Due.feed(x, "b+");
        x.undo();
        DUE.is("feed after undo", 3, x.feed('c'));
        x.save();
        x.restore();
        DUE.is("addFormula() after restore", 0, x.addFormula());
        DUE.is("text", "b+c", Due.text(x, 0));
        x.undo();
        DUE.is("the text does not come back", 0, x.clearBuffer());
    }

    private static void saveAndRestore() {
        ExpressionCompiler x = new ExpressionCompiler();
        DUE.fails("restore() of none", IllegalStateException.class, () -> x.restore());
        DUE.is("save() of nothing", 0, x.save());
        Due.add(x, "a*b+0");
        Due.add(x, "c");
        x.simplify(0);
        x.setVariable('f', -5);
        x.setRegisters(4);
        DUE.is("restore() of nothing", 0, x.restore());
        DUE.is("state of nothing", "0 0 0 0 0 0 2 0", Due.state(x));
        DUE.is("undoCount() after restore()", 0, x.undoCount());
        DUE.fails("undo() after restore()", IllegalStateException.class, () -> x.undo());
        Due.add(x, "a*b+0");
        Due.add(x, "c");
        x.simplify(0);
        x.setVariable('f', -5);
        x.setRegisters(4);
        String state = Due.state(x);
        DUE.is("save() replaces", 2, x.save());
        DUE.is("undoCount() after save()", 5, x.undoCount());
        DUE.is("undo() after save()", 4, x.undo());
        x.removeFormula(1);
        x.substitute(0, 'a', 0);
        x.setVariable('f', 5);
        Due.add(x, "0+0");
        x.simplify(1);
        DUE.is("restore()", 2, x.restore());
        DUE.is("state after restore()", state, Due.state(x));
        DUE.is("undoCount() after restore()", 0, x.undoCount());
        x.removeFormula(0);
        DUE.is("undoCount() after a new call", 1, x.undoCount());
        DUE.is("restore() again", 2, x.restore());
        DUE.is("state after the second restore()", state, Due.state(x));
        x.setRegisters(1);
        x.setRegisters(2);
        DUE.is("undo() after restore() and two calls", 1, x.undo());
        DUE.is("undo() again", 0, x.undo());
        DUE.is("state after both", state, Due.state(x));
    }

    private static void sixFormulas() {
        ExpressionCompiler x = Due.compilerWith("a", "b", "c", "d", "e", "f");
        x.save();
        for (int left = 5; left >= 0; left--) {
            DUE.is("removeFormula(0) to " + left, left, x.removeFormula(0));
        }
        DUE.is("undo() of six", 7, x.undo());
        DUE.is("undo() of six", 6, x.undo());
        DUE.is("state of two", "e f 0 0 0 0 0 0 2 0", Due.state(x));
        DUE.is("restore() of six", 6, x.restore());
        DUE.is("state of six", "a b c d e f 0 0 0 0 0 0 2 0", Due.state(x));
    }

    public static void main(String[] args) {
        eachCall();
        notRecorded();
        eightAtMost();
        bufferStays();
        saveAndRestore();
        sixFormulas();
        DUE.end();
    }
}
