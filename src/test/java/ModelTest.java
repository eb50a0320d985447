import java.util.ArrayDeque;
import java.util.ArrayList;
import java.util.Arrays;
import java.util.Deque;
import java.util.HashSet;
import java.util.List;
import java.util.NoSuchElementException;
import java.util.Random;
import java.util.Set;

/** Compares runs of calls with a second, independently written model of the document. */
final class ModelTest {
    private static final int RUNS = 600;
    private static final int CALLS = 512;

    /** A node: 'c' with a number, 'v' with a letter, 'n' with a left operand, or an operator. */
    record Node(char kind, int number, Node left, Node right) {
        static Node constant(int number) {
            return new Node('c', number, null, null);
        }

        boolean is(int wanted) {
            return kind == 'c' && number == wanted;
        }

        int nodes() {
            return 1 + (left == null ? 0 : left.nodes()) + (right == null ? 0 : right.nodes());
        }

        int depth() {
            return 1 + Math.max(left == null ? 0 : left.depth(), right == null ? 0 : right.depth());
        }

        int count(char letter) {
            return (kind == 'v' && number == letter ? 1 : 0) + (left == null ? 0 : left.count(letter))
                    + (right == null ? 0 : right.count(letter));
        }

        int degree() {
            return switch (kind) {
                case 'c' -> 0;
                case 'v' -> 1;
                case 'n' -> left.degree();
                case '*' -> left.degree() + right.degree();
                default -> Math.max(left.degree(), right.degree());
            };
        }

        int value(int[] values) {
            return switch (kind) {
                case 'c' -> number;
                case 'v' -> values[number - 'a'];
                case 'n' -> -left.value(values);
                case '+' -> left.value(values) + right.value(values);
                case '-' -> left.value(values) - right.value(values);
                default -> left.value(values) * right.value(values);
            };
        }

        int need() {
            if (kind == 'c' || kind == 'v') {
                return 1;
            }
            if (kind == 'n') {
                return left.need();
            }
            return left.need() == right.need() ? left.need() + 1 : Math.max(left.need(), right.need());
        }

        Node derivative(char letter) {
            return switch (kind) {
                case 'c' -> constant(0);
                case 'v' -> constant(number == letter ? 1 : 0);
                case 'n' -> new Node('n', 0, left.derivative(letter), null);
                case '*' -> new Node('+', 0, new Node('*', 0, left.derivative(letter), right),
                        new Node('*', 0, left, right.derivative(letter)));
                default -> new Node(kind, 0, left.derivative(letter), right.derivative(letter));
            };
        }

        Node with(char letter, Node by) {
            if (kind == 'v') {
                return number == letter ? by : this;
            }
            return new Node(kind, number, left == null ? null : left.with(letter, by),
                    right == null ? null : right.with(letter, by));
        }

        Node simplified() {
            if (left == null) {
                return this;
            }
            Node a = left.simplified();
            Node b = right == null ? null : right.simplified();
            if (a.kind == 'c' && (b == null || b.kind == 'c')) {
                return constant(new Node(kind, 0, a, b).value(null));
            }
            if (kind == 'n') {
                return a.kind == 'n' ? a.left : new Node('n', 0, a, null);
            }
            if (kind == '+' && (a.is(0) || b.is(0))) {
                return a.is(0) ? b : a;
            }
            if (kind == '-' && b.is(0)) {
                return a;
            }
            if (kind == '-' && a.is(0)) {
                return b.kind == 'n' ? b.left : new Node('n', 0, b, null);
            }
            if (kind == '-' && a.equals(b)) {
                return constant(0);
            }
            if (kind == '*' && (a.is(0) || b.is(0))) {
                return constant(0);
            }
            if (kind == '*' && (a.is(1) || b.is(1))) {
                return a.is(1) ? b : a;
            }
            return new Node(kind, 0, a, b);
        }

        void parts(Set<Node> into) {
            into.add(this);
            if (left != null) {
                left.parts(into);
            }
            if (right != null) {
                right.parts(into);
            }
        }

        String text() {
            if (kind == 'c') {
                return Integer.toString(number);
            }
            if (kind == 'v') {
                return String.valueOf((char) number);
            }
            if (kind == 'n') {
                return "-" + operand(left, 3);
            }
            return kind == '*' ? operand(left, 2) + '*' + operand(right, 3)
                    : operand(left, 1) + kind + operand(right, 2);
        }

        private static String operand(Node node, int least) {
            int level = node.kind == '*' ? 2 : node.kind == '+' || node.kind == '-' ? 1 : 3;
            return level < least ? "(" + node.text() + ")" : node.text();
        }

        int negationsAtTop() {
            return kind == 'n' ? 1 + left.negationsAtTop() : 0;
        }

        boolean hasSevenNegations() {
            return negationsAtTop() > 6 || left != null && left.hasSevenNegations()
                    || right != null && right.hasSevenNegations();
        }
    }

    /** An instruction as its kind, its register and its text. */
    record Instruction(char kind, int register, String text) {
    }

    static final class Translation {
        final List<Instruction> code = new ArrayList<>();
        final boolean[] inUse = new boolean[20];
        final Set<Integer> used = new HashSet<>();
        final int registers;

        Translation(Node root, int registers) {
            this.registers = registers;
            translate(root, 0);
        }

        void translate(Node node, int b) {
            String target = "r" + b + "=";
            if (node.kind == 'c') {
                code.add(new Instruction('c', b, target + node.number));
            } else if (node.kind == 'v') {
                code.add(new Instruction('v', b, target + (char) node.number));
            } else if (node.kind == 'n') {
                translate(node.left, b);
                code.add(new Instruction('n', b, target + "-r" + b));
            } else if (node.right.need() > node.left.need()) {
                String[] places = both(node.right, node.left, b);
                code.add(new Instruction(node.kind, b, target + places[1] + node.kind + places[0]));
            } else {
                String[] places = both(node.left, node.right, b);
                code.add(new Instruction(node.kind, b, target + places[0] + node.kind + places[1]));
            }
        }

        String[] both(Node first, Node second, int b) {
            translate(first, b);
            if (second.need() < registers - b) {
                translate(second, b + 1);
                return new String[] {"r" + b, "r" + (b + 1)};
            }
            int slot = 0;
            while (inUse[slot]) {
                slot++;
            }
            inUse[slot] = true;
            used.add(slot);
            code.add(new Instruction('s', b, "m" + slot + "=r" + b));
            translate(second, b);
            inUse[slot] = false;
            return new String[] {"m" + slot, "r" + b};
        }

        int stores() {
            return (int) code.stream().filter(instruction -> instruction.kind == 's').count();
        }
    }

    /** Where a text stops being well-formed, or -1. */
    static int errorIn(String text) {
        int open = 0;
        int negations = 0;
        boolean wantsFactor = true;
        int digits = 0;
        for (int i = 0; i < text.length(); i++) {
            char c = text.charAt(i);
            boolean isDigit = c >= '0' && c <= '9';
            if (wantsFactor) {
                if (c == '-' && negations < 6) {
                    negations++;
                } else if (c == '(' && open < 6) {
                    open++;
                    negations = 0;
                } else if (isDigit || c >= 'a' && c <= 'f') {
                    wantsFactor = false;
                    digits = isDigit ? 1 : 2;
                } else {
                    return i;
                }
            } else if (isDigit && digits == 1) {
                digits = 2;
            } else if (c == ')' && open > 0) {
                open--;
                digits = 2;
            } else if (c == '+' || c == '-' || c == '*') {
                wantsFactor = true;
                negations = 0;
            } else {
                return i;
            }
        }
        return wantsFactor || open > 0 ? text.length() : -1;
    }

    /** Parses a well-formed text by splitting it at its last operator. */
    static Node parsed(String text) {
        for (String operators : new String[] {"+-", "*"}) {
            int open = 0;
            for (int i = text.length() - 1; i > 0; i--) {
                char c = text.charAt(i);
                open += c == ')' ? 1 : c == '(' ? -1 : 0;
                char before = text.charAt(i - 1);
                boolean isBehindFactor = before == ')' || Character.isLetterOrDigit(before);
                if (open == 0 && operators.indexOf(c) >= 0 && isBehindFactor) {
                    return new Node(c, 0, parsed(text.substring(0, i)), parsed(text.substring(i + 1)));
                }
            }
        }
        char first = text.charAt(0);
        if (first == '-') {
            return new Node('n', 0, parsed(text.substring(1)), null);
        }
        if (first == '(') {
            return parsed(text.substring(1, text.length() - 1));
        }
        return Character.isDigit(first) ? Node.constant(Integer.parseUnsignedInt(text)) : new Node('v', first, null, null);
    }

    record State(List<Node> formulas, int[] values, int registers, int removed) {
        State() {
            this(new ArrayList<>(), new int[6], 2, 0);
        }

        State copy() {
            return new State(new ArrayList<>(formulas), values.clone(), registers, removed);
        }
    }

    static final class Model {
        String buffer = "";
        String output = "";
        int error = -1;
        State state = new State();
        State saved = null;
        final Deque<State> earlier = new ArrayDeque<>();

        Node formula(int index) {
            if (index < 0 || index >= state.formulas.size()) {
                throw new IndexOutOfBoundsException();
            }
            return state.formulas.get(index);
        }

        void letter(int letter) {
            if (letter < 'a' || letter > 'f') {
                throw new IllegalArgumentException();
            }
        }

        void full() {
            if (state.formulas.size() == 6) {
                throw new IllegalStateException();
            }
        }

        Node fitting(Node node) {
            if (node.nodes() > 31 || node.depth() > 8) {
                throw new UnsupportedOperationException();
            }
            return node;
        }

        void record() {
            earlier.addLast(state.copy());
            if (earlier.size() > 8) {
                earlier.removeFirst();
            }
        }

        int added(Node node) {
            record();
            state.formulas.add(node);
            return state.formulas.size() - 1;
        }

        Instruction instruction(int formula, int index) {
            List<Instruction> code = new Translation(formula(formula), state.registers).code;
            if (index < 0 || index >= code.size()) {
                throw new IndexOutOfBoundsException();
            }
            return code.get(index);
        }

        Set<Node> parts(int formula) {
            Set<Node> parts = new HashSet<>();
            formula(formula).parts(parts);
            return parts;
        }

        int written(String text) {
            output = text;
            return text.length();
        }

        int addFormula() {
            String text = buffer;
            buffer = "";
            if (errorIn(text) >= 0) {
                error = errorIn(text);
                throw new IllegalArgumentException();
            }
            full();
            return added(fitting(parsed(text)));
        }

        int simplify(int formula) {
            Node simplified = formula(formula).simplified();
            int decrease = formula(formula).nodes() - simplified.nodes();
            record();
            state.formulas.set(formula, simplified);
            state = new State(state.formulas, state.values, state.registers, state.removed + decrease);
            return decrease;
        }

        int differentiate(int formula, char letter) {
            Node node = formula(formula);
            letter(letter);
            full();
            return added(fitting(node.derivative(letter).simplified()));
        }

        int substitute(int formula, char letter, int by) {
            Node node = formula(formula);
            Node replacement = formula(by);
            letter(letter);
            Node changed = fitting(node.with(letter, replacement));
            record();
            state.formulas.set(formula, changed);
            return changed.nodes();
        }

        int setVariable(char letter, int value) {
            letter(letter);
            if (Math.abs((long) value) > 999) {
                throw new IllegalArgumentException();
            }
            record();
            int previous = state.values[letter - 'a'];
            state.values[letter - 'a'] = value;
            return previous;
        }

        int setRegisters(int registers) {
            if (registers < 1 || registers > 4) {
                throw new IllegalArgumentException();
            }
            record();
            int previous = state.registers;
            state = new State(state.formulas, state.values, registers, state.removed);
            return previous;
        }

        int formulaBySize(int rank) {
            List<Integer> order = new ArrayList<>();
            for (int i = 0; i < state.formulas.size(); i++) {
                order.add(i);
            }
            order.sort((i, j) -> {
                int byNodes = formula(j).nodes() - formula(i).nodes();
                int byDepth = formula(j).depth() - formula(i).depth();
                return byNodes != 0 ? byNodes : byDepth != 0 ? byDepth : i - j;
            });
            if (rank < 0 || rank >= order.size()) {
                throw new NoSuchElementException();
            }
            return order.get(rank);
        }

        int leastRegisters(int formula) {
            for (int registers = 1; registers <= 4; registers++) {
                if (new Translation(formula(formula), registers).stores() == 0) {
                    return registers;
                }
            }
            throw new NoSuchElementException();
        }
    }

    private final Random random;
    private final ExpressionCompiler real = new ExpressionCompiler();
    private final Model model = new Model();
    private final Due due;
    private final List<String> made = new ArrayList<>();
    private int left = CALLS;

    private ModelTest(int seed, Due due) {
        random = new Random(seed);
        this.due = due;
    }

    private void compare(String call, Due.Call onReal, Due.Call onModel) {
        if (left <= 0) {
            return;
        }
        left--;
        made.add(call);
        Object want = Due.outcome(onModel);
        Object got = Due.outcome(onReal);
        if (!want.equals(got)) {
            System.out.println("after " + made);
        }
        due.is(call, want, got);
    }

    private String randomText(int depth) {
        int choice = depth <= 0 ? random.nextInt(3) : 2 + random.nextInt(18);
        if (choice <= 1) {
            return String.valueOf((char) ('a' + random.nextInt(6)));
        }
        if (choice == 2) {
            return Integer.toString(random.nextInt(3) == 0 ? random.nextInt(100) : random.nextInt(3));
        }
        if (choice <= 4) {
            return "-" + randomText(depth - 1);
        }
        if (choice == 5) {
            return "(" + randomText(depth - 1) + ")";
        }
        String operator = String.valueOf("+-*".charAt(random.nextInt(3)));
        String text = randomText(depth - 1) + operator + randomText(depth - 1);
        return random.nextInt(3) == 0 ? "(" + text + ")" : text;
    }

    private String damaged(String text) {
        StringBuilder changed = new StringBuilder(text);
        int at = random.nextInt(text.length() + 1);
        String odd = "+-*()abf0199 gA.=\u0000\u4e00/:`{";
        switch (random.nextInt(4)) {
            case 0 -> changed.insert(at, odd.charAt(random.nextInt(odd.length())));
            case 1 -> changed.setLength(at);
            case 2 -> changed.insert(at, "-".repeat(random.nextInt(9)));
            default -> changed.insert(0, "(".repeat(random.nextInt(9)));
        }
        return changed.toString();
    }

    private void feedText() {
        String text = randomText(random.nextInt(5));
        if (random.nextInt(5) == 0) {
            text = damaged(text);
        }
        if (random.nextInt(8) == 0) {
            text = "-".repeat(random.nextInt(8)) + "(".repeat(random.nextInt(3)) + text;
        }
        for (char c : text.toCharArray()) {
            compare("feed(" + (int) c + ")", () -> real.feed(c), () -> {
                if (model.buffer.length() == 60) {
                    throw new IllegalStateException();
                }
                model.buffer += c;
                return model.buffer.length();
            });
        }
        if (random.nextInt(40) == 0) {
            compare("clearBuffer()", () -> real.clearBuffer(), () -> {
                int held = model.buffer.length();
                model.buffer = "";
                return held;
            });
        }
        compare("addFormula() of " + text, () -> real.addFormula(), () -> model.addFormula());
    }

    private int anyFormula() {
        int odd = random.nextInt(30);
        return odd == 0 ? -1 : odd == 1 ? model.state.formulas.size() : odd == 2 ? Integer.MIN_VALUE
                : odd == 3 ? Integer.MAX_VALUE : random.nextInt(Math.max(1, model.state.formulas.size()));
    }

    private char anyLetter() {
        int odd = random.nextInt(40);
        return odd == 0 ? 'g' : odd == 1 ? '`' : odd == 2 ? 'A' : odd == 3 ? '\uffff' : (char) ('a' + random.nextInt(6));
    }

    private void change() {
        int f = anyFormula();
        int g = anyFormula();
        char v = anyLetter();
        // With six formulas much is refused, so most draws then remove one.
        int most = model.state.formulas.size() == 6 && random.nextInt(4) > 0 ? 3 : 12;
        switch (random.nextInt(12) % most) {
            case 0 -> compare("removeFormula(" + f + ")", () -> real.removeFormula(f), () -> {
                model.formula(f);
                model.record();
                model.state.formulas.remove(f);
                return model.state.formulas.size();
            });
            case 1 -> compare("simplify(" + f + ")", () -> real.simplify(f), () -> model.simplify(f));
            case 3 -> compare("differentiate(" + f + "," + v + ")", () -> real.differentiate(f, v),
                    () -> model.differentiate(f, v));
            case 2, 4, 5, 6 -> compare("substitute(" + f + "," + v + "," + g + ")", () -> real.substitute(f, v, g),
                    () -> model.substitute(f, v, g));
            case 7 -> {
                int n = random.nextInt(4) == 0 ? random.nextInt(2100) - 1050 : random.nextInt(20) - 10;
                compare("setVariable(" + v + "," + n + ")", () -> real.setVariable(v, n), () -> model.setVariable(v, n));
            }
            case 8 -> {
                int n = random.nextInt(7) - 1;
                compare("setRegisters(" + n + ")", () -> real.setRegisters(n), () -> model.setRegisters(n));
            }
            case 9 -> compare("undo()", () -> real.undo(), () -> {
                if (model.earlier.isEmpty()) {
                    throw new IllegalStateException();
                }
                model.state = model.earlier.removeLast();
                return model.earlier.size();
            });
            case 10 -> compare("save()", () -> real.save(), () -> {
                model.saved = model.state.copy();
                return model.state.formulas.size();
            });
            default -> {
                if (random.nextInt(4) == 0) {
                    compare("restore()", () -> real.restore(), () -> {
                        if (model.saved == null) {
                            throw new IllegalStateException();
                        }
                        model.state = model.saved.copy();
                        model.earlier.clear();
                        return model.state.formulas.size();
                    });
                }
            }
        }
    }

    private void askState() {
        char v = anyLetter();
        int n = random.nextInt(9) - 1;
        int at = random.nextInt(model.output.length() + 2) - 1;
        List<Node> formulas = model.state.formulas;
        switch (random.nextInt(11)) {
            case 0 -> compare("formulaCount()", () -> real.formulaCount(), () -> formulas.size());
            case 1 -> compare("variable(" + v + ")", () -> real.variable(v), () -> {
                model.letter(v);
                return model.state.values[v - 'a'];
            });
            case 2 -> compare("registers()", () -> real.registers(), () -> model.state.registers);
            case 3 -> compare("removedNodes()", () -> real.removedNodes(), () -> model.state.removed);
            case 4 -> compare("undoCount()", () -> real.undoCount(), () -> model.earlier.size());
            case 5 -> compare("isConsistent()", () -> real.isConsistent(), () -> true);
            case 6 -> compare("errorPosition()", () -> real.errorPosition(), () -> {
                if (model.error < 0) {
                    throw new NoSuchElementException();
                }
                return model.error;
            });
            case 7 -> compare("meanNodes()", () -> real.meanNodes(), () -> {
                if (formulas.isEmpty()) {
                    throw new ArithmeticException();
                }
                return (double) formulas.stream().mapToInt(Node::nodes).sum() / (double) formulas.size();
            });
            case 8 -> compare("formulaBySize(" + n + ")", () -> real.formulaBySize(n), () -> model.formulaBySize(n));
            default -> compare("outputChar(" + at + ")", () -> real.outputChar(at), () -> {
                if (at < 0 || at >= model.output.length()) {
                    throw new IndexOutOfBoundsException();
                }
                return model.output.charAt(at);
            });
        }
    }

    private void askFormula() {
        int f = anyFormula();
        int g = anyFormula();
        char v = anyLetter();
        String at = "(" + f + ")";
        int[] values = model.state.values;
        switch (random.nextInt(15)) {
            case 0 -> compare("nodeCount" + at, () -> real.nodeCount(f), () -> model.formula(f).nodes());
            case 1 -> compare("depth" + at, () -> real.depth(f), () -> model.formula(f).depth());
            case 2 -> compare("occurrences" + at + v, () -> real.occurrences(f, v), () -> {
                Node node = model.formula(f);
                model.letter(v);
                return node.count(v);
            });
            case 3 -> compare("degree" + at, () -> real.degree(f), () -> model.formula(f).degree());
            case 4 -> compare("isConstant" + at, () -> real.isConstant(f), () -> {
                Node node = model.formula(f);
                return "abcdef".chars().allMatch(letter -> node.count((char) letter) == 0);
            });
            case 5 -> compare("isSame" + at + g, () -> real.isSame(f, g), () -> model.formula(f).equals(model.formula(g)));
            case 6 -> compare("distinctParts" + at, () -> real.distinctParts(f), () -> model.parts(f).size());
            case 7 -> compare("distinctPartsByComparison" + at, () -> real.distinctPartsByComparison(f),
                    () -> model.parts(f).size());
            case 8 -> compare("commonParts" + at + g, () -> real.commonParts(f, g), () -> {
                Set<Node> both = model.parts(f);
                both.retainAll(model.parts(g));
                return both.size();
            });
            case 9 -> compare("value" + at, () -> real.value(f), () -> model.formula(f).value(values));
            case 10 -> compare("valueByCode" + at, () -> real.valueByCode(f), () -> model.formula(f).value(values));
            case 11, 12 -> compare("slope" + at + v, () -> real.slope(f, v), () -> slopeOf(f, v));
            default -> compare("slopeByDerivative" + at + v, () -> real.slopeByDerivative(f, v), () -> slopeOf(f, v));
        }
    }

    private int slopeOf(int f, char v) {
        Node node = model.formula(f);
        model.letter(v);
        return node.derivative(v).value(model.state.values);
    }

    private void askCode() {
        int f = anyFormula();
        int i = random.nextInt(5) == 0 ? random.nextInt(50) - 1 : random.nextInt(6);
        String at = "(" + f + ")";
        switch (random.nextInt(12)) {
            case 0 -> compare("neededRegisters" + at, () -> real.neededRegisters(f), () -> model.formula(f).need());
            case 1 -> compare("neededRegistersByOrders" + at, () -> real.neededRegistersByOrders(f),
                    () -> model.formula(f).need());
            case 2 -> compare("codeLength" + at, () -> real.codeLength(f), () -> translation(f).code.size());
            case 3 -> compare("storeCount" + at, () -> real.storeCount(f), () -> translation(f).stores());
            case 4 -> compare("slotCount" + at, () -> real.slotCount(f), () -> translation(f).used.size());
            case 5 -> compare("leastRegistersWithoutStore" + at, () -> real.leastRegistersWithoutStore(f),
                    () -> model.leastRegisters(f));
            case 6 -> compare("instructionKind" + at + i, () -> real.instructionKind(f, i),
                    () -> model.instruction(f, i).kind);
            case 7 -> compare("instructionRegister" + at + i, () -> real.instructionRegister(f, i),
                    () -> model.instruction(f, i).register);
            case 8 -> compare("storeShare" + at, () -> real.storeShare(f),
                    () -> (float) translation(f).stores() / (float) translation(f).code.size());
            default -> {
                compare("writeInstruction" + at + i, () -> real.writeInstruction(f, i),
                        () -> model.written(model.instruction(f, i).text));
                checkOutput();
            }
        }
    }

    private Translation translation(int f) {
        return new Translation(model.formula(f), model.state.registers);
    }

    private void write() {
        int f = anyFormula();
        // The model's writer does not know the limit of six negations; WriteTest covers it.
        if (f >= 0 && f < model.state.formulas.size() && model.formula(f).hasSevenNegations()) {
            return;
        }
        compare("writeFormula(" + f + ")", () -> real.writeFormula(f), () -> model.written(model.formula(f).text()));
        checkOutput();
        checkParentheses();
    }

    /** Compares the whole output without counting the calls. */
    private void checkOutput() {
        if (left > 0) {
            due.is("output after " + made, model.output, Due.output(real, model.output.length()));
        }
    }

    /** No pair of parentheses may be left out without another tree, and the text gives the tree. */
    private void checkParentheses() {
        String text = model.output;
        if (errorIn(text.replaceAll("\\d{3,}", "99")) >= 0) {
            return;
        }
        Node tree = parsed(text);
        for (int open = 0; open < text.length(); open++) {
            if (text.charAt(open) == '(') {
                int close = open;
                for (int depth = 0; close == open || depth > 0; close++) {
                    depth += text.charAt(close) == '(' ? 1 : text.charAt(close) == ')' ? -1 : 0;
                }
                String bare = text.substring(0, open) + text.substring(open + 1, close - 1) + text.substring(close);
                due.is("needless parentheses in " + text, false, parsed(bare).equals(tree));
            }
        }
    }

    private void step() {
        switch (random.nextInt(30)) {
            case 0, 1 -> feedText();
            case 2, 3, 4, 5, 6, 7, 8, 9 -> change();
            case 10, 11, 12 -> askState();
            case 13, 14, 15, 16, 17, 18, 19 -> askFormula();
            case 20, 21, 22, 23, 24, 25 -> askCode();
            default -> write();
        }
    }

    public static void main(String[] args) {
        Due due = new Due();
        due.is("model's error in ((((((a", 7, errorIn("((((((a"));
        due.is("model's sum", "a*(b+2)-c", parsed("a*(b+2)-c").text());
        due.is("model's slots", Arrays.asList("r0=a", "m0=r0", "r0=b", "r0=m0+r0"),
                new Translation(parsed("a+b"), 1).code.stream().map(Instruction::text).toList());
        for (int run = 0; run < RUNS; run++) {
            ModelTest test = new ModelTest(run, due);
            // Some draws make no call, so draws are bounded too.
            for (int draw = 0; draw < 4 * CALLS && test.left > 0; draw++) {
                test.step();
            }
        }
        due.end();
    }
}
