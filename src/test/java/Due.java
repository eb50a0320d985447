import java.util.Objects;

/** Compares answers with those that are due, and makes compilers for the tests. */
final class Due {
    interface Call {
        Object make();
    }

    private int wrong = 0;
    private int asked = 0;

    /** Checks an answer. */
    void is(String call, Object want, Object got) {
        asked++;
        if (!Objects.equals(want, got)) {
            wrong++;
            System.out.println(call + " answered " + got + ", due is " + want);
        }
    }

    /** Checks that a call throws just this exception. */
    void fails(String call, Class<? extends RuntimeException> want, Call made) {
        is(call, "throws " + want.getSimpleName(), outcome(made));
    }

    /** Ends the test, with exit code 1 if an answer was wrong. */
    void end() {
        System.out.println(wrong == 0 ? asked + " answers are as due" : wrong + " answers are not as due");
        if (wrong != 0) {
            System.exit(1);
        }
    }

    static Object outcome(Call made) {
        try {
            return made.make();
        } catch (RuntimeException e) {
            return "throws " + e.getClass().getSimpleName();
        }
    }

    static ExpressionCompiler compilerWith(String... texts) {
        ExpressionCompiler compiler = new ExpressionCompiler();
        for (String text : texts) {
            add(compiler, text);
        }
        return compiler;
    }

    static void feed(ExpressionCompiler compiler, String text) {
        for (char character : text.toCharArray()) {
            compiler.feed(character);
        }
    }

    static int add(ExpressionCompiler compiler, String text) {
        feed(compiler, text);
        return compiler.addFormula();
    }

    static String output(ExpressionCompiler compiler, int length) {
        StringBuilder text = new StringBuilder();
        for (int index = 0; index < length; index++) {
            text.append(compiler.outputChar(index));
        }
        return text.toString();
    }

    static String text(ExpressionCompiler compiler, int formula) {
        return output(compiler, compiler.writeFormula(formula));
    }

    /** The instructions of a formula, separated by blanks. */
    static String code(ExpressionCompiler compiler, int formula) {
        StringBuilder text = new StringBuilder();
        for (int index = 0; index < compiler.codeLength(formula); index++) {
            text.append(index == 0 ? "" : " ");
            text.append(output(compiler, compiler.writeInstruction(formula, index)));
        }
        return text.toString();
    }

    /** All formulas, the values of the variables, the registers and the removed nodes. */
    static String state(ExpressionCompiler compiler) {
        StringBuilder text = new StringBuilder();
        for (int formula = 0; formula < compiler.formulaCount(); formula++) {
            text.append(text(compiler, formula)).append(' ');
        }
        for (char letter = 'a'; letter <= 'f'; letter++) {
            text.append(compiler.variable(letter)).append(' ');
        }
        return text.append(compiler.registers()).append(' ').append(compiler.removedNodes()).toString();
    }
}
