import java.lang.reflect.Constructor;
import java.lang.reflect.Field;
import java.lang.reflect.Method;
import java.lang.reflect.Modifier;
import java.util.ArrayList;
import java.util.List;
import java.util.Set;
import java.util.TreeSet;

/** The public face: the constructor, the 46 methods, and nothing else. */
final class FaceTest {
    private static final String[] FACE = {
        "int feed(char) IllegalStateException",
        "int clearBuffer()",
        "int addFormula() IllegalArgumentException IllegalStateException UnsupportedOperationException",
        "int removeFormula(int) IndexOutOfBoundsException",
        "int simplify(int) IndexOutOfBoundsException",
        "int differentiate(int,char) IndexOutOfBoundsException IllegalArgumentException IllegalStateException"
            + " UnsupportedOperationException",
        "int substitute(int,char,int) IndexOutOfBoundsException IllegalArgumentException"
            + " UnsupportedOperationException",
        "int setVariable(char,int) IllegalArgumentException",
        "int setRegisters(int) IllegalArgumentException",
        "int formulaCount()",
        "int variable(char) IllegalArgumentException",
        "int registers()",
        "int nodeCount(int) IndexOutOfBoundsException",
        "int depth(int) IndexOutOfBoundsException",
        "int occurrences(int,char) IndexOutOfBoundsException IllegalArgumentException",
        "int degree(int) IndexOutOfBoundsException",
        "boolean isConstant(int) IndexOutOfBoundsException",
        "boolean isSame(int,int) IndexOutOfBoundsException",
        "int distinctParts(int) IndexOutOfBoundsException",
        "int distinctPartsByComparison(int) IndexOutOfBoundsException",
        "int commonParts(int,int) IndexOutOfBoundsException",
        "int value(int) IndexOutOfBoundsException",
        "int valueByCode(int) IndexOutOfBoundsException",
        "int slope(int,char) IndexOutOfBoundsException IllegalArgumentException",
        "int slopeByDerivative(int,char) IndexOutOfBoundsException IllegalArgumentException",
        "int neededRegisters(int) IndexOutOfBoundsException",
        "int neededRegistersByOrders(int) IndexOutOfBoundsException",
        "int codeLength(int) IndexOutOfBoundsException",
        "int storeCount(int) IndexOutOfBoundsException",
        "int slotCount(int) IndexOutOfBoundsException",
        "int leastRegistersWithoutStore(int) IndexOutOfBoundsException NoSuchElementException",
        "char instructionKind(int,int) IndexOutOfBoundsException",
        "int instructionRegister(int,int) IndexOutOfBoundsException",
        "int writeInstruction(int,int) IndexOutOfBoundsException",
        "int writeFormula(int) IndexOutOfBoundsException",
        "char outputChar(int) IndexOutOfBoundsException",
        "int formulaBySize(int) NoSuchElementException",
        "int removedNodes()",
        "double meanNodes() ArithmeticException",
        "float storeShare(int) IndexOutOfBoundsException",
        "boolean isConsistent()",
        "int errorPosition() NoSuchElementException",
        "int undoCount()",
        "int undo() IllegalStateException",
        "int save()",
        "int restore() IllegalStateException",
    };

    private static String signature(Method method) {
        StringBuilder text = new StringBuilder(method.getReturnType().getSimpleName());
        text.append(' ').append(method.getName()).append('(');
        List<String> parameters = new ArrayList<>();
        for (Class<?> parameter : method.getParameterTypes()) {
            parameters.add(parameter.getSimpleName());
        }
        text.append(String.join(",", parameters)).append(')');
        for (Class<?> exception : method.getExceptionTypes()) {
            text.append(' ').append(exception.getSimpleName());
        }
        return text.toString();
    }

    public static void main(String[] args) {
        Due due = new Due();
        Class<?> face = ExpressionCompiler.class;
        Set<String> found = new TreeSet<>();
        Set<String> publicNames = new TreeSet<>();
        for (Method method : face.getDeclaredMethods()) {
            int modifiers = method.getModifiers();
            if (Modifier.isPublic(modifiers)) {
                found.add(signature(method));
                publicNames.add(method.getName());
                due.is(method + " is static", false, Modifier.isStatic(modifiers));
            } else {
                due.is(method + " is private", true, Modifier.isPrivate(modifiers) || method.isSynthetic());
            }
        }
        due.is("public methods", new TreeSet<>(List.of(FACE)), found);
        for (Method method : face.getDeclaredMethods()) {
            if (!Modifier.isPublic(method.getModifiers())) {
                due.is("a public method is named " + method.getName(), false, publicNames.contains(method.getName()));
            }
        }
        for (Field field : face.getDeclaredFields()) {
            due.is(field + " is private", true, Modifier.isPrivate(field.getModifiers()));
        }
        Constructor<?>[] constructors = face.getDeclaredConstructors();
        due.is("constructors", 1, constructors.length);
        due.is("parameters of the constructor", 0, constructors[0].getParameterCount());
        due.is("the constructor is public", true, Modifier.isPublic(constructors[0].getModifiers()));
        due.is("the class is public and final", Modifier.PUBLIC | Modifier.FINAL, face.getModifiers());
        due.is("superclass", Object.class, face.getSuperclass());
        due.end();
    }
}
