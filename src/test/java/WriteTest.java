/** Promises 35 to 37: what is written, and the output. */
final class WriteTest {
    private static final Due DUE = new Due();

    private static void written(String text, String want) {
        ExpressionCompiler x = Due.compilerWith(text);
        DUE.is("writeFormula of " + text, want.length(), x.writeFormula(0));
        DUE.is("output of " + text, want, Due.output(x, want.length()));
        DUE.fails("output of " + text + " ends", IndexOutOfBoundsException.class, () -> x.outputChar(want.length()));
        Due.add(x, want);
        DUE.is("the tree of " + text + " is parsed again", true, x.isSame(0, 1));
    }

    private static void formulas() {
        written("a*(b+2)-c", "a*(b+2)-c");
        written("-(a-b)*(-3)", "-(a-b)*-3");
        written("(-a)", "-a");
        written("-(-a)", "--a");
        written("((a+b))+c", "a+b+c");
        written("a+(b+c)", "a+(b+c)");
        written("a+(b-c)", "a+(b-c)");
        written("a-(b+c)", "a-(b+c)");
        written("(a-b)+(c*d)", "a-b+c*d");
        written("(a*b)-(c*d)", "a*b-c*d");
        written("(a*b)*c", "a*b*c");
        written("a*(b*c)", "a*(b*c)");
        written("(a+b)*(c-d)", "(a+b)*(c-d)");
        written("a*(-b)", "a*-b");
        written("(-a)*b", "-a*b");
        written("-(a*b)", "-(a*b)");
        written("(-(a+b))*c", "-(a+b)*c");
        written("a-(-b)", "a--b");
        written("a-(--b)", "a---b");
        written("(-a)-b", "-a-b");
        written("a-(-(-(b)))*c", "a---b*c");
        written("05+(00)", "5+0");
        written("a*(b*(c*(d*(e*(f*(a*b))))))", "a*(b*(c*(d*(e*(f*(a*b))))))");
        written("a-(b-(c-(d-(e-(f-(a-b))))))", "a-(b-(c-(d-(e-(f-(a-b))))))");
        written("((((((a-b)-c)-d)-e)-f)-a)-b", "a-b-c-d-e-f-a-b");
    }

    /** Texts may have six negations in a row, and parentheses begin a new count. */
    private static void negations() {
        written("------a", "------a");
        written("-(------a)", "------(-a)");
        written("---(----a)", "------(-a)");
        written("a-(------b)", "a-------b");
        written("a*(------b)", "a*------b");
        written("------(a+b)", "------(a+b)");
        written("---(---a*b)", "---(---a*b)");
        written("-(-----a*b)", "-(-----a*b)");
    }

    private static void writtenAfter(ExpressionCompiler x, String want) {
        DUE.is("text " + want, want, Due.text(x, 0));
    }

    /** Constants below 0 are written like negations and never get parentheses. */
    private static void constantsBelowZero() {
        ExpressionCompiler x = Due.compilerWith("a", "-3", "-(b-c)*d");
        x.simplify(1);
        x.substitute(0, 'a', 1);
        writtenAfter(x, "-3");
        String[] texts = {"a*d", "d*d", "-d", "--d", "a-d", "a+d", "d-a", "a-d*d", "-(d+a)", "------d"};
        String[] wanted = {"a*-3", "-3*-3", "--3", "---3", "a--3", "a+-3", "-3-a", "a--3*-3", "-(-3+a)", "-------3"};
        for (int i = 0; i < texts.length; i++) {
            x.removeFormula(0);
            x.removeFormula(0);
            x.removeFormula(0);
            Due.add(x, texts[i]);
            Due.add(x, "0-3");
            Due.add(x, "a");
            x.simplify(1);
            x.substitute(0, 'd', 1);
            writtenAfter(x, wanted[i]);
        }
        ExpressionCompiler large = Due.compilerWith("a-b", "64*64*64*64*64*2");
        large.simplify(1);
        large.substitute(0, 'b', 1);
        writtenAfter(large, "a--2147483648");
        DUE.is("length", 13, large.writeFormula(0));
        ExpressionCompiler example = Due.compilerWith("-(a-b)*c", "-3");
        example.simplify(1);
        example.substitute(0, 'c', 1);
        writtenAfter(example, "-(a-b)*-3");
    }

    private static void instructions() {
        ExpressionCompiler x = Due.compilerWith("5-b*-a");
        DUE.is("code", "r0=b r1=a r1=-r1 r0=r0*r1 r1=5 r0=r1-r0", Due.code(x, 0));
        DUE.is("length of r1=-r1", 6, x.writeInstruction(0, 2));
        DUE.is("output of r1=-r1", "r1=-r1", Due.output(x, 6));
        DUE.is("length of r1=5", 4, x.writeInstruction(0, 4));
        DUE.is("output of r1=5", "r1=5", Due.output(x, 4));
        DUE.fails("the output is replaced", IndexOutOfBoundsException.class, () -> x.outputChar(4));
        x.setRegisters(1);
        DUE.is("code with slots", "r0=b m0=r0 r0=a r0=-r0 r0=m0*r0 m0=r0 r0=5 r0=r0-m0", Due.code(x, 0));
        DUE.is("length of m0=r0", 5, x.writeInstruction(0, 1));
        DUE.is("length of r0=m0*r0", 8, x.writeInstruction(0, 4));
    }

    private static void output() {
        ExpressionCompiler x = Due.compilerWith("a*b+c", "d");
        for (int index : new int[] {0, -1, 1, Integer.MAX_VALUE, Integer.MIN_VALUE}) {
            DUE.fails("outputChar(" + index + ") of the empty output", IndexOutOfBoundsException.class,
                    () -> x.outputChar(index));
        }
        x.writeFormula(0);
        DUE.is("outputChar(0)", 'a', x.outputChar(0));
        DUE.is("outputChar(4)", 'c', x.outputChar(4));
        for (int index : new int[] {-1, 5, Integer.MAX_VALUE, Integer.MIN_VALUE}) {
            DUE.fails("outputChar(" + index + ")", IndexOutOfBoundsException.class, () -> x.outputChar(index));
        }
        x.save();
        x.undo();
        x.removeFormula(0);
        x.restore();
        DUE.is("output after undo and restore", "a*b+c", Due.output(x, 5));
        for (int f : new int[] {-1, 2, Integer.MAX_VALUE, Integer.MIN_VALUE}) {
            DUE.fails("writeFormula(" + f + ")", IndexOutOfBoundsException.class, () -> x.writeFormula(f));
        }
        DUE.is("output after failures", "a*b+c", Due.output(x, 5));
        DUE.is("writeFormula(1)", 1, x.writeFormula(1));
        DUE.fails("the output is replaced", IndexOutOfBoundsException.class, () -> x.outputChar(1));
        DUE.is("undoCount() after writing", 0, x.undoCount());
    }

    public static void main(String[] args) {
        formulas();
        negations();
        constantsBelowZero();
        instructions();
        output();
        DUE.end();
    }
}
