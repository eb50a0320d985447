import java.util.ArrayList;
import java.util.List;

/** Promises 44 to 47: undo, save and restore. */
final class UndoTest {
    private static final Due DUE = new Due();

    private static ExpressionCompiler busy() {
        ExpressionCompiler x = Due.compilerWith("a*b+0", "c-d");
        x.setVariable('c', 7);
        x.setRegisters(3);
        return x;
    }

    private static void undone(String call, Due.Call change, ExpressionCompiler x) {
        String before = Due.state(x);
        int count = x.undoCount();
        change.make();
        DUE.is("undoCount() after " + call, count + 1, x.undoCount());
        DUE.is("undo() of " + call, count, x.undo());
        DUE.is("undoCount() after undo of " + call, count, x.undoCount());
        DUE.is("state after undo of " + call, before, Due.state(x));
        DUE.is("isConsistent after undo of " + call, true, x.isConsistent());
    }

    private static void eachCall() {
        ExpressionCompiler x = busy();
        undone("addFormula", () -> Due.add(x, "e"), x);
        undone("removeFormula", () -> x.removeFormula(0), x);
        undone("simplify", () -> x.simplify(0), x);
        undone("simplify without change", () -> x.simplify(1), x);
        undone("differentiate", () -> x.differentiate(0, 'a'), x);
        undone("substitute", () -> x.substitute(0, 'a', 1), x);
        undone("substitute without change", () -> x.substitute(0, 'f', 1), x);
        undone("substitute by itself", () -> x.substitute(0, 'a', 0), x);
        undone("setVariable", () -> x.setVariable('c', 8), x);
        undone("setVariable without change", () -> x.setVariable('c', 7), x);
        undone("setRegisters", () -> x.setRegisters(1), x);
        undone("setRegisters without change", () -> x.setRegisters(3), x);
    }

    private static void notRecorded() {
        ExpressionCompiler x = busy();
        x.feed('a');
        x.clearBuffer();
        x.value(0);
        x.slopeByDerivative(0, 'a');
        x.leastRegistersWithoutStore(0);
        x.writeFormula(0);
        x.isConsistent();
        x.save();
        DUE.is("undoCount() after other calls", 4, x.undoCount());
        DUE.fails("removeFormula(2)", IndexOutOfBoundsException.class, () -> x.removeFormula(2));
        DUE.fails("setRegisters(0)", IllegalArgumentException.class, () -> x.setRegisters(0));
        DUE.fails("addFormula()", IllegalArgumentException.class, () -> x.addFormula());
        DUE.is("undoCount() after failures", 4, x.undoCount());
    }

    private static void eightAtMost() {
        ExpressionCompiler x = new ExpressionCompiler();
        for (int value = 1; value <= 20; value++) {
            x.setVariable('a', value);
            DUE.is("undoCount() after " + value, Math.min(value, 8), x.undoCount());
        }
        for (int left = 7; left >= 0; left--) {
            DUE.is("undo() to " + left, left, x.undo());
            DUE.is("variable(a) with " + left, 12 + left, x.variable('a'));
        }
        DUE.fails("undo() of none", IllegalStateException.class, () -> x.undo());
        DUE.is("variable(a) in the end", 12, x.variable('a'));
        x.setVariable('a', 50);
        x.setVariable('a', 60);
        DUE.is("undo() after new calls", 1, x.undo());
        DUE.is("variable(a) after undo", 50, x.variable('a'));
        x.setVariable('a', 70);
        DUE.is("undo() of 70", 1, x.undo());
        DUE.is("undo() of 50", 0, x.undo());
        DUE.is("variable(a) after all", 12, x.variable('a'));
    }

    private static void bufferStays() {
        ExpressionCompiler x = Due.compilerWith("a");
        Due.feed(x, "b+");
        x.undo();
        DUE.is("feed after undo", 3, x.feed('c'));
        x.save();
        x.restore();
        DUE.is("addFormula() after restore", 0, x.addFormula());
        DUE.is("text", "b+c", Due.text(x, 0));
        x.undo();
        DUE.is("the text does not come back", 0, x.clearBuffer());
    }

    private static void saveAndRestore() {
        ExpressionCompiler x = new ExpressionCompiler();
        DUE.fails("restore() of none", IllegalStateException.class, () -> x.restore());
        DUE.is("save() of nothing", 0, x.save());
        Due.add(x, "a*b+0");
        Due.add(x, "c");
        x.simplify(0);
        x.setVariable('f', -5);
        x.setRegisters(4);
        DUE.is("restore() of nothing", 0, x.restore());
        DUE.is("state of nothing", "0 0 0 0 0 0 2 0", Due.state(x));
        DUE.is("undoCount() after restore()", 0, x.undoCount());
        DUE.fails("undo() after restore()", IllegalStateException.class, () -> x.undo());
        Due.add(x, "a*b+0");
        Due.add(x, "c");
        x.simplify(0);
        x.setVariable('f', -5);
        x.setRegisters(4);
        String state = Due.state(x);
        DUE.is("save() replaces", 2, x.save());
        DUE.is("undoCount() after save()", 5, x.undoCount());
        DUE.is("undo() after save()", 4, x.undo());
        x.removeFormula(1);
        x.substitute(0, 'a', 0);
        x.setVariable('f', 5);
        Due.add(x, "0+0");
        x.simplify(1);
        DUE.is("restore()", 2, x.restore());
        DUE.is("state after restore()", state, Due.state(x));
        DUE.is("undoCount() after restore()", 0, x.undoCount());
        x.removeFormula(0);
        DUE.is("undoCount() after a new call", 1, x.undoCount());
        DUE.is("restore() again", 2, x.restore());
        DUE.is("state after the second restore()", state, Due.state(x));
        x.setRegisters(1);
        x.setRegisters(2);
        DUE.is("undo() after restore() and two calls", 1, x.undo());
        DUE.is("undo() again", 0, x.undo());
        DUE.is("state after both", state, Due.state(x));
    }

    private static void sixFormulas() {
        ExpressionCompiler x = Due.compilerWith("a", "b", "c", "d", "e", "f");
        x.save();
        for (int left = 5; left >= 0; left--) {
            DUE.is("removeFormula(0) to " + left, left, x.removeFormula(0));
        }
        DUE.is("undo() of six", 7, x.undo());
        DUE.is("undo() of six", 6, x.undo());
        DUE.is("state of two", "e f 0 0 0 0 0 0 2 0", Due.state(x));
        DUE.is("restore() of six", 6, x.restore());
        DUE.is("state of six", "a b c d e f 0 0 0 0 0 0 2 0", Due.state(x));
    }

    /** "At most the 8 latest calls can be undone", of whatever kind; the ninth cannot. */
    private static void eightOfAllKinds() {
        for (int extra = 0; extra <= 3; extra++) {
            ExpressionCompiler x = new ExpressionCompiler();
            List<Due.Call> calls = new ArrayList<>();
            calls.add(() -> Due.add(x, "a*b+0"));
            calls.add(() -> Due.add(x, "c-d"));
            calls.add(() -> x.setVariable('b', 7));
            calls.add(() -> x.simplify(0));
            calls.add(() -> x.differentiate(0, 'a'));
            calls.add(() -> x.substitute(1, 'd', 0));
            calls.add(() -> x.setRegisters(4));
            calls.add(() -> x.removeFormula(0));
            calls.add(() -> x.setVariable('b', 7));
            calls.add(() -> x.simplify(0));
            calls.add(() -> x.setRegisters(1));
            List<String> states = new ArrayList<>();
            for (int i = 0; i < 8 + extra; i++) {
                states.add(Due.state(x));
                calls.get(i).make();
                DUE.is("undoCount() after " + (i + 1), Math.min(i + 1, 8), x.undoCount());
            }
            for (int left = 7; left >= 0; left--) {
                DUE.is("undo() to " + left + " of " + (8 + extra), left, x.undo());
                DUE.is("undoCount() with " + left, left, x.undoCount());
                DUE.is("state with " + left + " of " + (8 + extra), states.get(left + extra), Due.state(x));
            }
            DUE.fails("undo() of the ninth", IllegalStateException.class, () -> x.undo());
            DUE.is("undoCount() after the ninth", 0, x.undoCount());
            DUE.is("state after the ninth", states.get(extra), Due.state(x));
        }
    }

    /** What has been given up stays so: calls after an undo do not bring the ninth back. */
    private static void theNinthStaysAway() {
        ExpressionCompiler x = new ExpressionCompiler();
        for (int value = 1; value <= 9; value++) {
            x.setVariable('a', value);
        }
        x.undo();
        x.undo();
        x.setRegisters(1);
        DUE.is("undoCount() of six and one", 7, x.undoCount());
        x.setRegisters(3);
        x.setRegisters(4);
        DUE.is("undoCount() of eight", 8, x.undoCount());
        int[] registers = {3, 1, 2, 2, 2, 2, 2, 2};
        int[] values = {7, 7, 7, 6, 5, 4, 3, 2};
        for (int i = 0; i < 8; i++) {
            DUE.is("undo() number " + i, 7 - i, x.undo());
            DUE.is("registers() after undo number " + i, registers[i], x.registers());
            DUE.is("variable(a) after undo number " + i, values[i], x.variable('a'));
        }
        DUE.fails("undo() of the ninth", IllegalStateException.class, () -> x.undo());
        DUE.is("variable(a) in the end", 2, x.variable('a'));
    }

    /** "Recorded when they return normally": neither what throws nor any other method. */
    private static void onlyTheseCalls() {
        ExpressionCompiler x = Due.compilerWith("a+b");
        String before = Due.state(new ExpressionCompiler());
        Due.feed(x, "c");
        x.clearBuffer();
        x.save();
        x.writeFormula(0);
        DUE.fails("setVariable(a,1000)", IllegalArgumentException.class, () -> x.setVariable('a', 1000));
        DUE.fails("setRegisters(5)", IllegalArgumentException.class, () -> x.setRegisters(5));
        DUE.fails("simplify(1)", IndexOutOfBoundsException.class, () -> x.simplify(1));
        DUE.fails("substitute(0,g,0)", IllegalArgumentException.class, () -> x.substitute(0, 'g', 0));
        DUE.fails("differentiate(0,g)", IllegalArgumentException.class, () -> x.differentiate(0, 'g'));
        DUE.fails("addFormula()", IllegalArgumentException.class, () -> x.addFormula());
        Due.feed(x, "a+a+a+a+a+a+a+a+a");
        DUE.fails("addFormula() too deep", UnsupportedOperationException.class, () -> x.addFormula());
        DUE.is("undoCount() of one", 1, x.undoCount());
        DUE.is("undo() of the one", 0, x.undo());
        DUE.is("state before the one", before, Due.state(x));
        // An undo is not recorded, so there is nothing that would bring the formula back.
        DUE.fails("undo() of undo()", IllegalStateException.class, () -> x.undo());
        DUE.is("state stays", before, Due.state(x));
    }

    private static void failToAdd(ExpressionCompiler x, String text) {
        Due.feed(x, text);
        DUE.fails("addFormula() of " + text, IllegalArgumentException.class, () -> x.addFormula());
    }

    /** "The input buffer, the output and the error position are not part of the undone or saved state." */
    private static void apartFromTheState() {
        ExpressionCompiler x = new ExpressionCompiler();
        failToAdd(x, "+");
        Due.add(x, "a*b");
        x.writeFormula(0);
        Due.feed(x, "1+");
        x.save();
        x.clearBuffer();
        Due.add(x, "c");
        failToAdd(x, "a-");
        x.writeFormula(1);
        x.setRegisters(1);
        failToAdd(x, "a-b)");
        x.writeInstruction(0, 1);
        Due.feed(x, "d");
        for (int left = 2; left >= 0; left--) {
            DUE.is("undo()", left, x.undo());
            DUE.is("errorPosition() after undo()", 3, x.errorPosition());
            DUE.is("output after undo()", "m0=r0", Due.output(x, 5));
        }
        DUE.is("restore()", 1, x.restore());
        DUE.is("errorPosition() after restore()", 3, x.errorPosition());
        DUE.is("output after restore()", "m0=r0", Due.output(x, 5));
        DUE.fails("output ends", IndexOutOfBoundsException.class, () -> x.outputChar(5));
        DUE.is("clearBuffer() after undo() and restore()", 1, x.clearBuffer());
        x.restore();
        DUE.is("clearBuffer() after the second restore()", 0, x.clearBuffer());
    }

    /** "An earlier saved state is replaced", and "the saved state is kept". */
    private static void savedState() {
        ExpressionCompiler x = Due.compilerWith("a", "b+0", "c");
        x.simplify(1);
        DUE.is("save() of three", 3, x.save());
        x.removeFormula(2);
        x.removeFormula(1);
        x.setVariable('a', 5);
        DUE.is("save() of one", 1, x.save());
        Due.add(x, "d");
        Due.add(x, "e*1");
        x.simplify(2);
        for (int turn = 0; turn < 3; turn++) {
            DUE.is("restore() of one", 1, x.restore());
            DUE.is("state of one", "a 5 0 0 0 0 0 2 2", Due.state(x));
            DUE.is("undoCount() after restore()", 0, x.undoCount());
            DUE.fails("undo() after restore()", IllegalStateException.class, () -> x.undo());
            x.substitute(0, 'a', 0);
            x.setVariable('a', turn);
            Due.add(x, "--f");
            x.simplify(1);
            x.undo();
            x.undo();
        }
        DUE.is("state before the last restore()", "a 2 0 0 0 0 0 2 2", Due.state(x));
        // The saved state stays when what came before it is undone.
        ExpressionCompiler y = Due.compilerWith("a");
        y.setVariable('f', 9);
        y.save();
        y.undo();
        y.undo();
        DUE.is("state of nothing", "0 0 0 0 0 0 2 0", Due.state(y));
        DUE.is("restore() of what was undone", 1, y.restore());
        DUE.is("state after restore()", "a 0 0 0 0 0 9 2 0", Due.state(y));
        DUE.fails("undo() after restore()", IllegalStateException.class, () -> y.undo());
    }

    public static void main(String[] args) {
        eachCall();
        notRecorded();
        eightAtMost();
        bufferStays();
        saveAndRestore();
        sixFormulas();
        eightOfAllKinds();
        theNinthStaysAway();
        onlyTheseCalls();
        apartFromTheState();
        savedState();
        DUE.end();
    }
}
