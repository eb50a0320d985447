import java.io.IOException;
import java.lang.reflect.Method;
import java.lang.reflect.Modifier;
import java.nio.file.Files;
import java.nio.file.Path;

/** README.md: its example answers what its comments say, and its table names every call. */
final class ReadmeTest {
    private static final Path README = Path.of("README.md");
    private static final Path SOURCE = Path.of("src/test/java/ReadmeTest.java");
    private static final Due DUE = new Due();

    /** The example of README.md, line by line, and then what its comments say. */
    private static void example() {
        ExpressionCompiler compiler = new ExpressionCompiler();
        for (char character : "a*b+7".toCharArray()) {
            compiler.feed(character);
        }
        int formula = compiler.addFormula();                    // 0
        compiler.setVariable('a', 5);
        compiler.setVariable('b', -3);
        int value = compiler.value(formula);                    // -8
        int slope = compiler.slope(formula, 'a');               // -3
        int derivative = compiler.differentiate(formula, 'a');  // 1, the index of a new formula, b
        int instructions = compiler.codeLength(formula);        // 5
        int length = compiler.writeInstruction(formula, 2);     // 8, the length of r0=r0*r1
        char fourth = compiler.outputChar(3);                   // r
        int undoable = compiler.undo();                         // 3, and the derivative is gone

        int position = -1;
        compiler.feed('a');
        compiler.feed('+');
        try {
            compiler.addFormula();
        } catch (IllegalArgumentException malformed) {
            position = compiler.errorPosition();                // 2, as the text ends too early
        }
        DUE.is("formula", 0, formula);
        DUE.is("value", -8, value);
        DUE.is("slope", -3, slope);
        DUE.is("derivative", 1, derivative);
        DUE.is("instructions", 5, instructions);
        DUE.is("length", 8, length);
        DUE.is("fourth", 'r', fourth);
        DUE.is("undoable", 3, undoable);
        DUE.is("position", 2, position);
        DUE.is("output", "r0=r0*r1", Due.output(compiler, length));
        DUE.is("formulas in the end", 1, compiler.formulaCount());
        compiler.differentiate(formula, 'a');
        DUE.is("the derivative", "b", Due.text(compiler, derivative));
    }

    /** Lines without what stands before and behind them, as the example is indented in this file. */
    private static String withoutIndent(String text) {
        return text.replaceAll("(?m)^ +| +$", "");
    }

    public static void main(String[] args) throws IOException {
        example();
        String readme = Files.readString(README);
        String[] parts = readme.split("```java\n|```\n");
        DUE.is("examples in README.md", 3, parts.length);
        DUE.is("the example stands here", true, withoutIndent(Files.readString(SOURCE)).contains(withoutIndent(parts[1])));
        for (Method method : ExpressionCompiler.class.getDeclaredMethods()) {
            if (Modifier.isPublic(method.getModifiers())) {
                DUE.is("README.md names " + method.getName(), true, parts[2].contains("`" + method.getName() + "`"));
            }
        }
        DUE.end();
    }
}
