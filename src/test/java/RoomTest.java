import com.sun.management.ThreadMXBean;
import java.lang.management.ManagementFactory;

/** The dearest runs stay far below the room of 7.3 million fields and elements. */
final class RoomTest {
    private static final int CALLS = 512;
    private static final long MOST_BYTES = 4_000_000;
    private static final String BIG = "a*b*c+d*e*f+(a*b*c+d*e*f)+a*(b*c+d)";
    private static final Due DUE = new Due();

    private static ExpressionCompiler full() {
        ExpressionCompiler x = Due.compilerWith(BIG, BIG, BIG, BIG, BIG, "e");
        x.setRegisters(1);
        x.save();
        return x;
    }

    private static void measure(String name, Due.Call call) {
        ThreadMXBean threads = (ThreadMXBean) ManagementFactory.getThreadMXBean();
        long id = Thread.currentThread().getId();
        long before = threads.getThreadAllocatedBytes(id);
        for (int turn = 0; turn < CALLS; turn++) {
            call.make();
        }
        long made = threads.getThreadAllocatedBytes(id) - before;
        if (made > MOST_BYTES) {
            System.out.println(name + " made " + made + " bytes");
        }
        DUE.is(name + " stays small", true, made <= MOST_BYTES);
    }

    public static void main(String[] args) {
        ExpressionCompiler x = full();
        measure("isConsistent", () -> x.isConsistent());
        measure("simplify", () -> x.simplify(0));
        measure("substitute", () -> x.substitute(0, 'e', 5));
        measure("writeFormula", () -> x.writeFormula(1));
        measure("writeInstruction", () -> x.writeInstruction(1, 1));
        measure("slopeByDerivative", () -> x.slopeByDerivative(1, 'a'));
        measure("distinctPartsByComparison", () -> x.distinctPartsByComparison(1));
        measure("formulaBySize", () -> x.formulaBySize(5));
        x.removeFormula(4);
        measure("addFormula and undo", () -> Due.add(x, BIG) + x.undo());
        measure("differentiate and undo", () -> x.differentiate(0, 'a') + x.undo());
        measure("restore", () -> x.restore());
        DUE.end();
    }
}
