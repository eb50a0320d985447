import java.util.NoSuchElementException;

/** Promises 29 to 35 and 41: the code of a formula. */
final class CodeTest {
    private static final Due DUE = new Due();
    private static final String FIVE = "a*b+c*d+(e*f+a*b)+(a*b+c*d+(e*f+a*b))";

    private static void coded(String text, int registers, String want) {
        ExpressionCompiler x = Due.compilerWith("e", text);
        x.setRegisters(registers);
        String[] instructions = want.split(" ");
        DUE.is("code of " + text + " with " + registers, want, Due.code(x, 1));
        DUE.is("codeLength " + text + " with " + registers, instructions.length, x.codeLength(1));
        int stores = 0;
        for (int index = 0; index < instructions.length; index++) {
            String instruction = instructions[index];
            String call = " " + index + " of " + text + " with " + registers;
            DUE.is("kind" + call, kindOf(instruction), x.instructionKind(1, index));
            DUE.is("register" + call, registerOf(instruction), x.instructionRegister(1, index));
            stores += instruction.charAt(0) == 'm' ? 1 : 0;
        }
        DUE.is("storeCount " + text, stores, x.storeCount(1));
        DUE.is("storeShare " + text, (float) stores / (float) instructions.length, x.storeShare(1));
        for (int index : new int[] {-1, instructions.length, Integer.MAX_VALUE, Integer.MIN_VALUE}) {
            Class<IndexOutOfBoundsException> none = IndexOutOfBoundsException.class;
            DUE.fails("instructionKind " + index, none, () -> x.instructionKind(1, index));
            DUE.fails("instructionRegister " + index, none, () -> x.instructionRegister(1, index));
            DUE.fails("writeInstruction " + index, none, () -> x.writeInstruction(1, index));
        }
    }

    /** Reads the kind from the written form, in which only an operator has two places. */
    private static char kindOf(String instruction) {
        String right = instruction.substring(3);
        if (instruction.charAt(0) == 'm') {
            return 's';
        }
        if (right.startsWith("-r")) {
            return 'n';
        }
        if (right.length() > 3) {
            return right.charAt(2);
        }
        return right.length() == 1 && Character.isLetter(right.charAt(0)) ? 'v' : 'c';
    }

    private static int registerOf(String instruction) {
        return instruction.charAt(0) == 'm' ? instruction.charAt(4) - '0' : instruction.charAt(1) - '0';
    }

    private static void codes() {
        coded("5", 2, "r0=5");
        coded("99", 1, "r0=99");
        coded("b", 2, "r0=b");
        coded("-b", 2, "r0=b r0=-r0");
        coded("--5", 1, "r0=5 r0=-r0 r0=-r0");
        coded("a+b", 2, "r0=a r1=b r0=r0+r1");
        coded("a+b", 1, "r0=a m0=r0 r0=b r0=m0+r0");
        coded("a-b", 1, "r0=a m0=r0 r0=b r0=m0-r0");
        coded("a-b*c", 1, "r0=b m0=r0 r0=c r0=m0*r0 m0=r0 r0=a r0=r0-m0");
        coded("a-b*c", 2, "r0=b r1=c r0=r0*r1 r1=a r0=r1-r0");
        coded("a-b*c", 4, "r0=b r1=c r0=r0*r1 r1=a r0=r1-r0");
        coded("b*c-a", 2, "r0=b r1=c r0=r0*r1 r1=a r0=r0-r1");
        coded("a*b+c*d", 2, "r0=a r1=b r0=r0*r1 m0=r0 r0=c r1=d r0=r0*r1 r0=m0+r0");
        coded("a*b-c*d", 3, "r0=a r1=b r0=r0*r1 r1=c r2=d r1=r1*r2 r0=r0-r1");
        coded("a*b+c*a-7", 1,
                "r0=a m0=r0 r0=b r0=m0*r0 m0=r0 r0=c m1=r0 r0=a r0=m1*r0 r0=m0+r0 m0=r0 r0=7 r0=m0-r0");
        coded("a*b+c*a-7", 2, "r0=a r1=b r0=r0*r1 m0=r0 r0=c r1=a r0=r0*r1 r0=m0+r0 r1=7 r0=r0-r1");
        coded("-(a+b)*-c", 2, "r0=a r1=b r0=r0+r1 r0=-r0 r1=c r1=-r1 r0=r0*r1");
        coded("(a-b*c)-(d-e*f)", 3,
                "r0=b r1=c r0=r0*r1 r1=a r0=r1-r0 r1=e r2=f r1=r1*r2 r2=d r1=r2-r1 r0=r0-r1");
        coded("a-(b*c-d*e)", 2,
                "r0=b r1=c r0=r0*r1 m0=r0 r0=d r1=e r0=r0*r1 r0=m0-r0 r1=a r0=r1-r0");
        // With three registers the right half stores, while the left half waits in register 0 or a slot.
        coded("a*b+c*d-(e*f+a*b)", 3,
                "r0=a r1=b r0=r0*r1 r1=c r2=d r1=r1*r2 r0=r0+r1 m0=r0"
                + " r0=e r1=f r0=r0*r1 r1=a r2=b r1=r1*r2 r0=r0+r1 r0=m0-r0");
        coded("a*b+c*d-(e*f+a*b)", 1,
                "r0=a m0=r0 r0=b r0=m0*r0 m0=r0 r0=c m1=r0 r0=d r0=m1*r0 r0=m0+r0 m0=r0"
                + " r0=e m1=r0 r0=f r0=m1*r0 m1=r0 r0=a m2=r0 r0=b r0=m2*r0 r0=m1+r0 r0=m0-r0");
    }

    private static void slots(String text, int one, int two, int three, int four) {
        ExpressionCompiler x = Due.compilerWith(text);
        int[] want = {one, two, three, four};
        for (int registers = 1; registers <= 4; registers++) {
            x.setRegisters(registers);
            DUE.is("slotCount " + text + " with " + registers, want[registers - 1], x.slotCount(0));
        }
    }

    private static void slotCounts() {
        slots("a", 0, 0, 0, 0);
        slots("---a", 0, 0, 0, 0);
        slots("a+b", 1, 0, 0, 0);
        slots("a+b+c", 1, 0, 0, 0);
        slots("a*b+c*d", 2, 1, 0, 0);
        slots("a*b+c*d+e*f", 2, 1, 0, 0);
        slots("a*b+c*d+(e*f+a*b)", 3, 2, 1, 0);
        slots(FIVE, 4, 3, 2, 1);
    }

    private static void stores(String text, int one, int two, int three, int four, Object least) {
        ExpressionCompiler x = Due.compilerWith(text);
        int[] want = {one, two, three, four};
        for (int registers = 1; registers <= 4; registers++) {
            x.setRegisters(registers);
            DUE.is("storeCount " + text + " with " + registers, want[registers - 1], x.storeCount(0));
            DUE.is("codeLength " + text + " with " + registers, x.nodeCount(0) + want[registers - 1], x.codeLength(0));
            DUE.is("least registers of " + text, least, Due.outcome(() -> x.leastRegistersWithoutStore(0)));
            DUE.is("registers() afterwards", registers, x.registers());
        }
    }

    private static void storeCounts() {
        stores("a", 0, 0, 0, 0, 1);
        stores("-a", 0, 0, 0, 0, 1);
        stores("a+b", 1, 0, 0, 0, 2);
        stores("a*b+c*d", 3, 1, 0, 0, 3);
        stores("a*b+c*d+(e*f+a*b)", 7, 3, 1, 0, 4);
        stores(FIVE, 15, 7, 3, 1, "throws NoSuchElementException");
    }

    private static void shares() {
        ExpressionCompiler x = Due.compilerWith("a*b+c*d");
        DUE.is("storeShare with 2", 1.0f / 8.0f, x.storeShare(0));
        x.setRegisters(1);
        DUE.is("storeShare with 1", 3.0f / 10.0f, x.storeShare(0));
        x.setRegisters(3);
        DUE.is("storeShare with 3", 0.0f, x.storeShare(0));
        x.substitute(0, 'a', 0);
        x.setRegisters(1);
        DUE.is("storeShare of 13 nodes", 6.0f / 19.0f, x.storeShare(0));
    }

    private static void constants() {
        ExpressionCompiler x = Due.compilerWith("-5", "99*99*99*99*99*(99*99)");
        x.simplify(0);
        x.simplify(1);
        DUE.is("code of -5", "r0=-5", Due.code(x, 0));
        DUE.is("kind of -5", 'c', x.instructionKind(0, 0));
        DUE.is("code of a large constant", "r0=" + 99 * 99 * 99 * 99 * 99 * 99 * 99, Due.code(x, 1));
        ExpressionCompiler least = Due.compilerWith("64*64*64*64*64*2");
        least.simplify(0);
        DUE.is("code of the least constant", "r0=-2147483648", Due.code(least, 0));
        DUE.is("valueByCode of the least constant", Integer.MIN_VALUE, least.valueByCode(0));
    }

    /** Each answer belongs to its own formula, whichever was asked before. */
    private static void inTurn() {
        ExpressionCompiler x = Due.compilerWith("a+b*c", "5", "-d");
        x.setRegisters(1);
        for (int turn = 0; turn < 3; turn++) {
            DUE.is("instructionKind(0,3)", 's', kindBehind(x, 0, 1, 1));
            DUE.is("instructionKind(1,0)", 'c', kindBehind(x, 1, 0, 0));
            DUE.is("instructionKind(2,1)", 'n', kindBehind(x, 2, 0, 1));
            x.codeLength(1);
            DUE.is("storeCount(0)", 2, x.storeCount(0));
            x.codeLength(1);
            DUE.is("slotCount(0)", 1, x.slotCount(0));
            x.codeLength(1);
            DUE.is("storeShare(0)", 2.0f / 7.0f, x.storeShare(0));
            x.codeLength(1);
            DUE.is("writeInstruction(0,3)", 8, x.writeInstruction(0, 3));
            x.codeLength(0);
            DUE.is("storeCount(2)", 0, x.storeCount(2));
            DUE.is("codeLength(2)", 2, x.codeLength(2));
        }
        ExpressionCompiler y = Due.compilerWith("a*b", "(a-b)*(c-d)");
        y.setRegisters(3);
        y.codeLength(0);
        DUE.is("instructionRegister(1,4)", 2, y.instructionRegister(1, 4));
        y.codeLength(1);
        DUE.is("instructionRegister(0,1)", 1, y.instructionRegister(0, 1));
        y.codeLength(1);
        DUE.fails("instructionRegister(0,4)", IndexOutOfBoundsException.class, () -> y.instructionRegister(0, 4));
        y.leastRegistersWithoutStore(1);
        DUE.is("slotCount(1)", 0, y.slotCount(1));
        y.setRegisters(2);
        DUE.is("slotCount(1) with 2", 1, y.slotCount(1));
        y.undo();
        DUE.is("slotCount(1) after undo", 0, y.slotCount(1));
    }

    private static char kindBehind(ExpressionCompiler x, int formula, int before, int index) {
        x.codeLength(before);
        return x.instructionKind(formula, index);
    }

    private static void wrongFormulas() {
        ExpressionCompiler x = Due.compilerWith("a+b");
        x.codeLength(0);
        x.writeFormula(0);
        Class<IndexOutOfBoundsException> want = IndexOutOfBoundsException.class;
        for (int f : new int[] {1, -1, Integer.MAX_VALUE, Integer.MIN_VALUE}) {
            DUE.fails("codeLength " + f, want, () -> x.codeLength(f));
            DUE.fails("storeCount " + f, want, () -> x.storeCount(f));
            DUE.fails("slotCount " + f, want, () -> x.slotCount(f));
            DUE.fails("leastRegistersWithoutStore " + f, want, () -> x.leastRegistersWithoutStore(f));
            DUE.fails("instructionKind " + f, want, () -> x.instructionKind(f, 0));
            DUE.fails("instructionRegister " + f, want, () -> x.instructionRegister(f, 0));
            DUE.fails("writeInstruction " + f, want, () -> x.writeInstruction(f, 0));
            DUE.fails("storeShare " + f, want, () -> x.storeShare(f));
        }
        DUE.fails("writeInstruction(0,3)", want, () -> x.writeInstruction(0, 3));
        DUE.is("output after failures", "a+b", Due.output(x, 3));
        DUE.fails("output ends", want, () -> x.outputChar(3));
        DUE.fails("least of five needs", NoSuchElementException.class,
                () -> Due.compilerWith(FIVE).leastRegistersWithoutStore(0));
    }

    public static void main(String[] args) {
        codes();
        slotCounts();
        storeCounts();
        shares();
        constants();
        inTurn();
        wrongFormulas();
        DUE.end();
    }
}
