import java.util.NoSuchElementException;

/** A compiler for arithmetic formulas. */
public final class ExpressionCompiler {
    private static final int NONE = -1;

    private static final int MOST_FORMULAS = 6;
    private static final int MOST_NODES = 31;
    private static final int MOST_LEVELS = 8;
    private static final int MOST_CHARACTERS = 60;
    private static final int MOST_OPEN = 6;
    private static final int MOST_NEGATIONS = 6;
    private static final int MOST_UNDONE = 8;
    private static final int GREATEST_VALUE = 999;

    private static final char FIRST_LETTER = 'a';
    private static final char LAST_LETTER = 'f';
    private static final int LETTERS = 6;

    private static final int FIRST_REGISTERS = 2;
    private static final int MOST_REGISTERS = 4;
    // A path of a formula has at most seven operators, and each can hold one slot.
    private static final int MOST_SLOTS = 7;
    // A store adds one instruction to those of the nodes, at most one for each operator.
    private static final int MOST_INSTRUCTIONS = 2 * MOST_NODES;

    // A derivative shares the nodes of its formula and adds at most three for each of them.
    private static final int WORK_NODES = 4 * MOST_NODES;
    // A derivative has at most fifteen levels; what goes far beyond is refused.
    private static final int DEEPEST = 40;

    private static final char CONSTANT = 'c';
    private static final char VARIABLE = 'v';
    private static final char NEGATION = 'n';
    private static final char STORE = 's';
    private static final char SUM = '+';
    private static final char DIFFERENCE = '-';
    private static final char PRODUCT = '*';

    private static final int BINDING_OF_SUM = 1;
    private static final int BINDING_OF_PRODUCT = 2;
    private static final int BINDING_OF_FACTOR = 3;

    private final StringBuilder output;
    private int latestError;

    private final State current;
    private final State kept;
    private boolean isKept;
    private final History history;

    // Trees that a call builds before it knows whether they become formulas.
    private final Tree rough;
    private final Tree smooth;
    private final Parser parser;
    private final Algebra algebra;
    private final Gauge gauge;
    private final Numbering numbering;
    private final Code code;

    public ExpressionCompiler() {
        output = new StringBuilder();
        latestError = NONE;
        current = new State();
        kept = new State();
        isKept = false;
        history = new History();
        rough = new Tree(WORK_NODES);
        smooth = new Tree(WORK_NODES);
        parser = new Parser();
        algebra = new Algebra();
        gauge = new Gauge();
        numbering = new Numbering();
        code = new Code();
    }

    // ---- the input buffer

    public int feed(char character) throws IllegalStateException {
        Input input = parser.input();
        if (input.isFull()) {
            throw new IllegalStateException("the input buffer is full");
        }
        input.append(character);
        return input.length();
    }

    public int clearBuffer() {
        int held = parser.input().length();
        parser.input().clear();
        return held;
    }

    // ---- changes

    public int addFormula()
            throws IllegalArgumentException, IllegalStateException, UnsupportedOperationException {
        int root = parser.parse();
        parser.input().clear();
        if (root == NONE) {
            latestError = parser.position();
            throw new IllegalArgumentException("the text is malformed");
        }
        requireRoomForFormula();
        requireLimits(parser.tree(), root);
        history.remember(current);
        return current.append(formulaFrom(parser.tree(), root));
    }

    public int removeFormula(int formula) throws IndexOutOfBoundsException {
        formulaAt(formula);
        history.remember(current);
        current.remove(formula);
        return current.total();
    }

    public int simplify(int formula) throws IndexOutOfBoundsException {
        Tree tree = formulaAt(formula);
        int root = algebra.reduce(tree, tree.root(), smooth);
        Tree simplified = formulaFrom(smooth, root);
        int decrease = tree.size() - simplified.size();
        history.remember(current);
        current.replace(formula, simplified);
        current.countRemoved(decrease);
        return decrease;
    }

    public int differentiate(int formula, char variable)
            throws IndexOutOfBoundsException, IllegalArgumentException, IllegalStateException,
            UnsupportedOperationException {
        Tree tree = formulaAt(formula);
        requireLetter(variable);
        requireRoomForFormula();
        int derivative = algebra.derive(tree, variable, rough);
        int root = algebra.reduce(rough, derivative, smooth);
        requireLimits(smooth, root);
        history.remember(current);
        return current.append(formulaFrom(smooth, root));
    }

    public int substitute(int formula, char variable, int by)
            throws IndexOutOfBoundsException, IllegalArgumentException, UnsupportedOperationException {
        Tree tree = formulaAt(formula);
        Tree replacement = formulaAt(by);
        requireLetter(variable);
        int root = algebra.insert(tree, variable, replacement, rough);
        requireLimits(rough, root);
        history.remember(current);
        Tree changed = formulaFrom(rough, root);
        current.replace(formula, changed);
        return changed.size();
    }

    public int setVariable(char variable, int value) throws IllegalArgumentException {
        requireLetter(variable);
        if (value < -GREATEST_VALUE || value > GREATEST_VALUE) {
            throw new IllegalArgumentException("the value is out of range");
        }
        history.remember(current);
        return current.changeLetter(variable, value);
    }

    public int setRegisters(int registers) throws IllegalArgumentException {
        if (registers < 1 || registers > MOST_REGISTERS) {
            throw new IllegalArgumentException("the number of registers is out of range");
        }
        history.remember(current);
        return current.changeMachine(registers);
    }

    // ---- questions about the state

    public int formulaCount() {
        return current.total();
    }

    public int variable(char variable) throws IllegalArgumentException {
        requireLetter(variable);
        return current.letters().get(variable - FIRST_LETTER);
    }

    public int registers() {
        return current.machine();
    }

    public int nodeCount(int formula) throws IndexOutOfBoundsException {
        return formulaAt(formula).size();
    }

    public int depth(int formula) throws IndexOutOfBoundsException {
        Tree tree = formulaAt(formula);
        return gauge.levels(tree, tree.root());
    }

    public int occurrences(int formula, char variable)
            throws IndexOutOfBoundsException, IllegalArgumentException {
        Tree tree = formulaAt(formula);
        requireLetter(variable);
        int found = 0;
        for (int node = 0; node < tree.size(); node++) {
            if (tree.isLetter(node, variable)) {
                found++;
            }
        }
        return found;
    }

    public int degree(int formula) throws IndexOutOfBoundsException {
        return gauge.power(formulaAt(formula));
    }

    public boolean isConstant(int formula) throws IndexOutOfBoundsException {
        Tree tree = formulaAt(formula);
        for (int node = 0; node < tree.size(); node++) {
            if (tree.kind(node) == VARIABLE) {
                return false;
            }
        }
        return true;
    }

    public boolean isSame(int first, int second) throws IndexOutOfBoundsException {
        Tree one = formulaAt(first);
        Tree other = formulaAt(second);
        return areEqual(one, one.root(), other, other.root(), 1);
    }

    // ---- parts

    public int distinctParts(int formula) throws IndexOutOfBoundsException {
        return partsByNumbers(formulaAt(formula));
    }

    public int distinctPartsByComparison(int formula) throws IndexOutOfBoundsException {
        return partsByComparison(formulaAt(formula));
    }

    public int commonParts(int first, int second) throws IndexOutOfBoundsException {
        Tree one = formulaAt(first);
        Tree other = formulaAt(second);
        int inOther = partsByNumbers(other);
        int inOne = partsByNumbers(one);
        numbering.include(other);
        return inOne + inOther - numbering.total();
    }

    // ---- values and slopes

    public int value(int formula) throws IndexOutOfBoundsException {
        Tree tree = formulaAt(formula);
        return gauge.result(tree, tree.root(), current.letters());
    }

    public int valueByCode(int formula) throws IndexOutOfBoundsException {
        return resultOfCode(formulaAt(formula));
    }

    public int slope(int formula, char variable)
            throws IndexOutOfBoundsException, IllegalArgumentException {
        Tree tree = formulaAt(formula);
        requireLetter(variable);
        return gauge.steepness(tree, variable, current.letters());
    }

    public int slopeByDerivative(int formula, char variable)
            throws IndexOutOfBoundsException, IllegalArgumentException {
        Tree tree = formulaAt(formula);
        requireLetter(variable);
        int root = algebra.derive(tree, variable, rough);
        return gauge.result(rough, root, current.letters());
    }

    // ---- registers and code

    public int neededRegisters(int formula) throws IndexOutOfBoundsException {
        return gauge.need(formulaAt(formula));
    }

    public int neededRegistersByOrders(int formula) throws IndexOutOfBoundsException {
        return gauge.needByOrders(formulaAt(formula));
    }

    public int codeLength(int formula) throws IndexOutOfBoundsException {
        code.translate(formulaAt(formula), current.machine());
        return code.length();
    }

    public int storeCount(int formula) throws IndexOutOfBoundsException {
        code.translate(formulaAt(formula), current.machine());
        return code.stores();
    }

    public int slotCount(int formula) throws IndexOutOfBoundsException {
        code.translate(formulaAt(formula), current.machine());
        return code.slots();
    }

    public int leastRegistersWithoutStore(int formula)
            throws IndexOutOfBoundsException, NoSuchElementException {
        Tree tree = formulaAt(formula);
        for (int registers = 1; registers <= MOST_REGISTERS; registers++) {
            code.translate(tree, registers);
            if (code.stores() == 0) {
                return registers;
            }
        }
        throw new NoSuchElementException("the code stores a register with every machine");
    }

    public char instructionKind(int formula, int index) throws IndexOutOfBoundsException {
        code.translate(formulaAt(formula), current.machine());
        requireInstruction(index);
        return code.kind(index);
    }

    public int instructionRegister(int formula, int index) throws IndexOutOfBoundsException {
        code.translate(formulaAt(formula), current.machine());
        requireInstruction(index);
        return code.register(index);
    }

    // ---- the output

    public int writeInstruction(int formula, int index) throws IndexOutOfBoundsException {
        code.translate(formulaAt(formula), current.machine());
        requireInstruction(index);
        output.setLength(0);
        code.write(index, output);
        return output.length();
    }

    public int writeFormula(int formula) throws IndexOutOfBoundsException {
        Tree tree = formulaAt(formula);
        output.setLength(0);
        writeNode(tree, tree.root(), BINDING_OF_SUM, 0, output, 1);
        return output.length();
    }

    public char outputChar(int index) throws IndexOutOfBoundsException {
        if (index < 0 || index >= output.length()) {
            throw new IndexOutOfBoundsException("no such character");
        }
        return output.charAt(index);
    }

    // ---- sizes and shares

    public int formulaBySize(int rank) throws NoSuchElementException {
        if (rank >= 0) {
            for (int formula = 0; formula < current.total(); formula++) {
                if (rankOf(formula) == rank) {
                    return formula;
                }
            }
        }
        throw new NoSuchElementException("no such rank");
    }

    public int removedNodes() {
        return current.removed();
    }

    public double meanNodes() throws ArithmeticException {
        int formulas = current.total();
        if (formulas == 0) {
            throw new ArithmeticException("there are no formulas");
        }
        int nodes = 0;
        for (int formula = 0; formula < formulas; formula++) {
            nodes += formulaAt(formula).size();
        }
        return (double) nodes / (double) formulas;
    }

    public float storeShare(int formula) throws IndexOutOfBoundsException {
        code.translate(formulaAt(formula), current.machine());
        if (code.length() == 0) {
            return 0.0f;
        }
        return (float) code.stores() / (float) code.length();
    }

    // ---- checks, errors and earlier states

    public boolean isConsistent() {
        for (int formula = 0; formula < current.total(); formula++) {
            Tree tree = formulaAt(formula);
            boolean agrees = gauge.result(tree, tree.root(), current.letters()) == resultOfCode(tree)
                    && partsByNumbers(tree) == partsByComparison(tree)
                    && gauge.need(tree) == gauge.needByOrders(tree)
                    && agreesOnSlopes(tree);
            if (!agrees) {
                return false;
            }
        }
        return true;
    }

    public int errorPosition() throws NoSuchElementException {
        if (latestError == NONE) {
            throw new NoSuchElementException("no text was malformed");
        }
        return latestError;
    }

    public int undoCount() {
        return history.total();
    }

    public int undo() throws IllegalStateException {
        if (history.total() == 0) {
            throw new IllegalStateException("no call can be undone");
        }
        history.takeBack(current);
        return history.total();
    }

    public int save() {
        kept.copy(current);
        isKept = true;
        return current.total();
    }

    public int restore() throws IllegalStateException {
        if (!isKept) {
            throw new IllegalStateException("no state was saved");
        }
        current.copy(kept);
        history.forget();
        return current.total();
    }

    // ---- what a call demands

    private Tree formulaAt(int formula) {
        Tree tree = current.formula(formula);
        if (tree == null) {
            throw new IndexOutOfBoundsException("no such formula");
        }
        return tree;
    }

    private void requireInstruction(int index) {
        if (index < 0 || index >= code.length()) {
            throw new IndexOutOfBoundsException("no such instruction");
        }
    }

    private static void requireLetter(char letter) {
        if (letter < FIRST_LETTER || letter > LAST_LETTER) {
            throw new IllegalArgumentException("no such variable");
        }
    }

    private void requireRoomForFormula() {
        if (current.total() >= MOST_FORMULAS) {
            throw new IllegalStateException("there are six formulas");
        }
    }

    private void requireLimits(Tree tree, int root) {
        if (gauge.nodes(tree, root) > MOST_NODES || gauge.levels(tree, root) > MOST_LEVELS) {
            throw new UnsupportedOperationException("the formula is too large or too deep");
        }
    }

    // ---- what several calls share

    private Tree formulaFrom(Tree work, int root) {
        Tree formula = new Tree(gauge.nodes(work, root));
        copyNode(work, root, formula, 1);
        return formula;
    }

    private int resultOfCode(Tree tree) {
        code.translate(tree, current.machine());
        return code.run(current.letters());
    }

    private int partsByNumbers(Tree tree) {
        numbering.clear();
        numbering.include(tree);
        return numbering.total();
    }

    private static int partsByComparison(Tree tree) {
        int parts = 0;
        for (int node = 0; node < tree.size(); node++) {
            if (isFirstOfItsKind(tree, node)) {
                parts++;
            }
        }
        return parts;
    }

    private static boolean isFirstOfItsKind(Tree tree, int node) {
        for (int earlier = 0; earlier < node; earlier++) {
            if (areEqual(tree, node, tree, earlier, 1)) {
                return false;
            }
        }
        return true;
    }

    private int rankOf(int formula) {
        int before = 0;
        for (int other = 0; other < current.total(); other++) {
            if (other != formula && comesBefore(other, formula)) {
                before++;
            }
        }
        return before;
    }

    private boolean comesBefore(int first, int second) {
        Tree one = formulaAt(first);
        Tree other = formulaAt(second);
        if (one.size() != other.size()) {
            return one.size() > other.size();
        }
        int levelsOfOne = gauge.levels(one, one.root());
        int levelsOfOther = gauge.levels(other, other.root());
        if (levelsOfOne != levelsOfOther) {
            return levelsOfOne > levelsOfOther;
        }
        return first < second;
    }

    private boolean agreesOnSlopes(Tree tree) {
        for (char letter = FIRST_LETTER; letter <= LAST_LETTER; letter++) {
            int steepness = gauge.steepness(tree, letter, current.letters());
            int root = algebra.derive(tree, letter, rough);
            if (steepness != gauge.result(rough, root, current.letters())) {
                return false;
            }
        }
        return true;
    }

    // ---- trees

    private static boolean isOperator(int kind) {
        return kind == SUM || kind == DIFFERENCE || kind == PRODUCT;
    }

    private static int operate(int kind, int left, int right) {
        switch (kind) {
            case NEGATION:
                return -left;
            case SUM:
                return left + right;
            case DIFFERENCE:
                return left - right;
            case PRODUCT:
                return left * right;
            default:
                return 0;
        }
    }

    private static boolean areEqual(Tree one, int first, Tree other, int second, int level) {
        if (first == NONE || second == NONE || level > DEEPEST) {
            return first == NONE && second == NONE;
        }
        return one.kind(first) == other.kind(second)
                && one.number(first) == other.number(second)
                && areEqual(one, one.left(first), other, other.left(second), level + 1)
                && areEqual(one, one.right(first), other, other.right(second), level + 1);
    }

    private static int copyNode(Tree from, int node, Tree to, int level) {
        if (node == NONE || level > DEEPEST) {
            return NONE;
        }
        int left = copyNode(from, from.left(node), to, level + 1);
        int right = copyNode(from, from.right(node), to, level + 1);
        return to.add(from.kind(node), from.number(node), left, right);
    }

    private static int bindingOf(int kind) {
        if (kind == SUM || kind == DIFFERENCE) {
            return BINDING_OF_SUM;
        }
        return kind == PRODUCT ? BINDING_OF_PRODUCT : BINDING_OF_FACTOR;
    }

    private static void writeNode(Tree tree, int node, int least, int negations, StringBuilder text, int level) {
        int kind = tree.kind(node);
        // The form of texts allows no more negations in a row, but counts anew in parentheses.
        boolean isOneTooMany = kind == NEGATION && negations >= MOST_NEGATIONS;
        if (bindingOf(kind) < least || isOneTooMany) {
            text.append('(');
            writeBare(tree, node, 0, text, level);
            text.append(')');
        } else {
            writeBare(tree, node, negations, text, level);
        }
    }

    private static void writeBare(Tree tree, int node, int negations, StringBuilder text, int level) {
        if (level > DEEPEST) {
            return;
        }
        int kind = tree.kind(node);
        if (kind == CONSTANT) {
            text.append(tree.number(node));
        } else if (kind == VARIABLE) {
            text.append((char) tree.number(node));
        } else if (kind == NEGATION) {
            text.append('-');
            writeNode(tree, tree.left(node), BINDING_OF_FACTOR, negations + 1, text, level + 1);
        } else {
            int binding = bindingOf(kind);
            writeNode(tree, tree.left(node), binding, 0, text, level + 1);
            text.append((char) kind);
            writeNode(tree, tree.right(node), binding + 1, 0, text, level + 1);
        }
    }

    /** Numbers that can be read and set at any index; outside the row they are 0 and stay so. */
    private static final class Row {
        private final int[] cells;

        Row(int length) {
            cells = new int[length > 0 ? length : 0];
        }

        int get(int index) {
            return index >= 0 && index < cells.length ? cells[index] : 0;
        }

        void set(int index, int number) {
            if (index >= 0 && index < cells.length) {
                cells[index] = number;
            }
        }

        void copy(Row other) {
            for (int index = 0; index < cells.length; index++) {
                cells[index] = other.get(index);
            }
        }
    }

    /** The input buffer. */
    private static final class Input {
        private final char[] characters;
        private int length;

        Input() {
            characters = new char[MOST_CHARACTERS];
            length = 0;
        }

        boolean isFull() {
            return length >= characters.length;
        }

        int length() {
            return length;
        }

        void append(char character) {
            if (length >= 0 && length < characters.length) {
                characters[length] = character;
                length++;
            }
        }

        void clear() {
            length = 0;
        }

        /** Behind the text a blank stands, which no text may contain. */
        char at(int index) {
            return index >= 0 && index < length && index < characters.length ? characters[index] : ' ';
        }
    }

    /**
     * Nodes in the order in which they were added, each behind its operands, so that one loop
     * meets all operands first. A work tree may use a node as an operand more than once.
     */
    private static final class Tree {
        private final Row kinds;
        private final Row numbers;
        private final Row lefts;
        private final Row rights;
        private final int room;
        private int size;

        Tree(int nodes) {
            kinds = new Row(nodes);
            numbers = new Row(nodes);
            lefts = new Row(nodes);
            rights = new Row(nodes);
            room = nodes;
            size = 0;
        }

        int size() {
            return size;
        }

        int root() {
            return size - 1;
        }

        int kind(int node) {
            return kinds.get(node);
        }

        /** The number of a constant, the letter of a variable, 0 for others. */
        int number(int node) {
            return numbers.get(node);
        }

        int left(int node) {
            return lefts.get(node);
        }

        int right(int node) {
            return rights.get(node);
        }

        boolean isLetter(int node, char letter) {
            return kind(node) == VARIABLE && number(node) == letter;
        }

        boolean isNumber(int node, int number) {
            return kind(node) == CONSTANT && number(node) == number;
        }

        void clear() {
            size = 0;
        }

        int add(int kind, int number, int left, int right) {
            if (size >= room) {
                return NONE;
            }
            kinds.set(size, kind);
            numbers.set(size, number);
            lefts.set(size, left);
            rights.set(size, right);
            size++;
            return size - 1;
        }

        int addConstant(int number) {
            return add(CONSTANT, number, NONE, NONE);
        }

        int addNegation(int operand) {
            return add(NEGATION, 0, operand, NONE);
        }

        int addOperator(int kind, int left, int right) {
            return add(kind, 0, left, right);
        }

        void copy(Tree other) {
            clear();
            for (int node = 0; node < other.size(); node++) {
                add(other.kind(node), other.number(node), other.left(node), other.right(node));
            }
        }
    }

    /** The input buffer and what reads it from the left; where this stops is the error position. */
    private static final class Parser {
        private final Input text;
        private final Tree tree;
        private int position;

        Parser() {
            text = new Input();
            tree = new Tree(MOST_CHARACTERS);
            position = 0;
        }

        Input input() {
            return text;
        }

        /** The tree of the text that was parsed last. */
        Tree tree() {
            return tree;
        }

        int position() {
            return position;
        }

        /** Returns the root, or NONE if the text is malformed. */
        int parse() {
            tree.clear();
            position = 0;
            int root = parseSum(0);
            return position == text.length() ? root : NONE;
        }

        private int parseSum(int open) {
            int left = parseProduct(open);
            for (int turn = 0; turn < MOST_CHARACTERS && left != NONE && isAtSign(SUM, DIFFERENCE); turn++) {
                char kind = takeSign();
                left = join(kind, left, parseProduct(open));
            }
            return left;
        }

        private int parseProduct(int open) {
            int left = parseFactor(open);
            for (int turn = 0; turn < MOST_CHARACTERS && left != NONE && isAtSign(PRODUCT, PRODUCT); turn++) {
                char kind = takeSign();
                left = join(kind, left, parseFactor(open));
            }
            return left;
        }

        private int join(char kind, int left, int right) {
            return right == NONE ? NONE : tree.addOperator(kind, left, right);
        }

        private int parseFactor(int open) {
            int negations = 0;
            while (negations < MOST_NEGATIONS && text.at(position) == '-') {
                negations++;
                position++;
            }
            int node = parseUnsigned(open);
            for (int turn = 0; turn < negations && node != NONE; turn++) {
                node = tree.addNegation(node);
            }
            return node;
        }

        private int parseUnsigned(int open) {
            char next = text.at(position);
            if (next == '(' && open < MOST_OPEN) {
                return parseParentheses(open);
            }
            if (next >= FIRST_LETTER && next <= LAST_LETTER) {
                position++;
                return tree.add(VARIABLE, next, NONE, NONE);
            }
            return isAtDigit() ? parseNumber() : NONE;
        }

        private int parseParentheses(int open) {
            position++;
            int node = parseSum(open + 1);
            if (node == NONE || text.at(position) != ')') {
                return NONE;
            }
            position++;
            return node;
        }

        private int parseNumber() {
            int number = takeDigit();
            if (isAtDigit()) {
                number = 10 * number + takeDigit();
            }
            return tree.addConstant(number);
        }

        private char takeSign() {
            char sign = text.at(position);
            position++;
            return sign;
        }

        private int takeDigit() {
            int digit = text.at(position) - '0';
            position++;
            return digit;
        }

        private boolean isAtDigit() {
            char next = text.at(position);
            return next >= '0' && next <= '9';
        }

        private boolean isAtSign(char one, char other) {
            char next = text.at(position);
            return next == one || next == other;
        }
    }

    /** Builds new trees from old ones, node by node. */
    private static final class Algebra {
        // Where each node of the old tree went in the new one.
        private final Row places;

        Algebra() {
            places = new Row(WORK_NODES);
        }

        private int place(int node) {
            return node == NONE ? NONE : places.get(node);
        }

        /** Puts another formula for a letter and returns the root. */
        int insert(Tree from, char letter, Tree replacement, Tree to) {
            to.copy(replacement);
            int inserted = to.root();
            for (int node = 0; node < from.size(); node++) {
                if (from.isLetter(node, letter)) {
                    places.set(node, inserted);
                } else {
                    places.set(node, to.add(from.kind(node), from.number(node),
                            place(from.left(node)), place(from.right(node))));
                }
            }
            return place(from.root());
        }

        /** Builds the derivative behind a copy of the formula, whose nodes it uses, and returns its root. */
        int derive(Tree from, char letter, Tree to) {
            to.copy(from);
            for (int node = 0; node < from.size(); node++) {
                places.set(node, derivedNode(from, node, letter, to));
            }
            return place(from.root());
        }

        private int derivedNode(Tree from, int node, char letter, Tree to) {
            int kind = from.kind(node);
            int left = from.left(node);
            int right = from.right(node);
            if (kind == NEGATION) {
                return to.addNegation(place(left));
            }
            if (kind == SUM || kind == DIFFERENCE) {
                return to.addOperator(kind, place(left), place(right));
            }
            if (kind == PRODUCT) {
                int first = to.addOperator(PRODUCT, place(left), right);
                int second = to.addOperator(PRODUCT, left, place(right));
                return to.addOperator(SUM, first, second);
            }
            return to.addConstant(from.isLetter(node, letter) ? 1 : 0);
        }

        /** Simplifies what stands below a root and returns the new root. */
        int reduce(Tree from, int root, Tree to) {
            to.clear();
            for (int node = 0; node < from.size(); node++) {
                places.set(node, reducedNode(from, node, to));
            }
            return place(root);
        }

        private int reducedNode(Tree from, int node, Tree to) {
            int kind = from.kind(node);
            int left = place(from.left(node));
            int right = place(from.right(node));
            if (kind == NEGATION) {
                return reducedNegation(left, to);
            }
            if (!isOperator(kind)) {
                return to.add(kind, from.number(node), NONE, NONE);
            }
            if (to.kind(left) == CONSTANT && to.kind(right) == CONSTANT) {
                return to.addConstant(operate(kind, to.number(left), to.number(right)));
            }
            if (kind == SUM) {
                return reducedSum(left, right, to);
            }
            return kind == DIFFERENCE ? reducedDifference(left, right, to) : reducedProduct(left, right, to);
        }

        private static int reducedNegation(int operand, Tree to) {
            if (to.kind(operand) == CONSTANT) {
                return to.addConstant(operate(NEGATION, to.number(operand), 0));
            }
            return to.kind(operand) == NEGATION ? to.left(operand) : to.addNegation(operand);
        }

        private static int reducedSum(int left, int right, Tree to) {
            if (to.isNumber(left, 0)) {
                return right;
            }
            return to.isNumber(right, 0) ? left : to.addOperator(SUM, left, right);
        }

        private static int reducedDifference(int left, int right, Tree to) {
            if (to.isNumber(right, 0)) {
                return left;
            }
            if (to.isNumber(left, 0)) {
                return to.kind(right) == NEGATION ? to.left(right) : to.addNegation(right);
            }
            if (areEqual(to, left, to, right, 1)) {
                return to.addConstant(0);
            }
            return to.addOperator(DIFFERENCE, left, right);
        }

        private static int reducedProduct(int left, int right, Tree to) {
            if (to.isNumber(left, 0) || to.isNumber(right, 0)) {
                return to.addConstant(0);
            }
            if (to.isNumber(left, 1)) {
                return right;
            }
            return to.isNumber(right, 1) ? left : to.addOperator(PRODUCT, left, right);
        }
    }

    /** Computes a number for each node from those of its operands, and returns that of the root. */
    private static final class Gauge {
        private final Row results;
        private final Row slopes;
        private final Row needs;

        Gauge() {
            results = new Row(WORK_NODES);
            slopes = new Row(WORK_NODES);
            needs = new Row(WORK_NODES);
        }

        /** Counts a node as often as it is used. */
        int nodes(Tree tree, int root) {
            for (int node = 0; node < tree.size(); node++) {
                results.set(node, 1 + results.get(tree.left(node)) + results.get(tree.right(node)));
            }
            return results.get(root);
        }

        int levels(Tree tree, int root) {
            for (int node = 0; node < tree.size(); node++) {
                int left = results.get(tree.left(node));
                int right = results.get(tree.right(node));
                results.set(node, 1 + Math.max(left, right));
            }
            return results.get(root);
        }

        int power(Tree tree) {
            for (int node = 0; node < tree.size(); node++) {
                results.set(node, powerOfNode(tree, node));
            }
            return results.get(tree.root());
        }

        private int powerOfNode(Tree tree, int node) {
            int kind = tree.kind(node);
            if (kind == VARIABLE) {
                return 1;
            }
            int left = results.get(tree.left(node));
            int right = results.get(tree.right(node));
            return kind == PRODUCT ? left + right : Math.max(left, right);
        }

        int result(Tree tree, int root, Row letters) {
            for (int node = 0; node < tree.size(); node++) {
                results.set(node, resultOfNode(tree, node, letters));
            }
            return results.get(root);
        }

        private int resultOfNode(Tree tree, int node, Row letters) {
            int kind = tree.kind(node);
            if (kind == CONSTANT) {
                return tree.number(node);
            }
            if (kind == VARIABLE) {
                return letters.get(tree.number(node) - FIRST_LETTER);
            }
            return operate(kind, results.get(tree.left(node)), results.get(tree.right(node)));
        }

        int steepness(Tree tree, char letter, Row letters) {
            for (int node = 0; node < tree.size(); node++) {
                slopes.set(node, slopeOfNode(tree, node, letter));
                results.set(node, resultOfNode(tree, node, letters));
            }
            return slopes.get(tree.root());
        }

        private int slopeOfNode(Tree tree, int node, char letter) {
            int kind = tree.kind(node);
            int left = tree.left(node);
            int right = tree.right(node);
            if (kind == PRODUCT) {
                return slopes.get(left) * results.get(right) + results.get(left) * slopes.get(right);
            }
            if (kind == CONSTANT || kind == VARIABLE) {
                return tree.isLetter(node, letter) ? 1 : 0;
            }
            return operate(kind, slopes.get(left), slopes.get(right));
        }

        int need(Tree tree) {
            for (int node = 0; node < tree.size(); node++) {
                needs.set(node, needOfNode(tree, node));
            }
            return needs.get(tree.root());
        }

        /** The need of a node of the tree that was measured last. */
        int needOf(int node) {
            return needs.get(node);
        }

        private int needOfNode(Tree tree, int node) {
            int left = needs.get(tree.left(node));
            int right = needs.get(tree.right(node));
            if (isOperator(tree.kind(node))) {
                return left == right ? left + 1 : Math.max(left, right);
            }
            return tree.kind(node) == NEGATION ? left : 1;
        }

        int needByOrders(Tree tree) {
            for (int node = 0; node < tree.size(); node++) {
                results.set(node, needByOrdersOfNode(tree, node));
            }
            return results.get(tree.root());
        }

        private int needByOrdersOfNode(Tree tree, int node) {
            int left = results.get(tree.left(node));
            int right = results.get(tree.right(node));
            if (isOperator(tree.kind(node))) {
                int leftFirst = Math.max(left, right + 1);
                int rightFirst = Math.max(right, left + 1);
                return Math.min(leftFirst, rightFirst);
            }
            return tree.kind(node) == NEGATION ? left : 1;
        }
    }

    /** Gives equal trees the same number: the index of the one node that stands for them here. */
    private static final class Numbering {
        private final Tree parts;
        private final Row numbers;

        Numbering() {
            parts = new Tree(2 * MOST_NODES);
            numbers = new Row(MOST_NODES);
        }

        void clear() {
            parts.clear();
        }

        int total() {
            return parts.size();
        }

        void include(Tree tree) {
            for (int node = 0; node < tree.size(); node++) {
                numbers.set(node, numberFor(tree.kind(node), tree.number(node),
                        numberOf(tree.left(node)), numberOf(tree.right(node))));
            }
        }

        private int numberOf(int node) {
            return node == NONE ? NONE : numbers.get(node);
        }

        private int numberFor(int kind, int number, int left, int right) {
            for (int part = 0; part < parts.size(); part++) {
                if (parts.kind(part) == kind && parts.number(part) == number
                        && parts.left(part) == left && parts.right(part) == right) {
                    return part;
                }
            }
            return parts.add(kind, number, left, right);
        }
    }

    /** Instructions for a machine whose places are its registers and, behind them, its slots. */
    private static final class Code {
        private static final int FIRST_SLOT = MOST_REGISTERS;

        private final Row kinds;
        private final Row registers;
        // The number of a constant, the letter of a variable, or the slot that gets a register.
        private final Row numbers;
        private final Row lefts;
        private final Row rights;
        private int length;

        private final Gauge gauge;
        private final Row busySlots;
        private final Row places;
        private int machine;

        Code() {
            gauge = new Gauge();
            kinds = new Row(MOST_INSTRUCTIONS);
            registers = new Row(MOST_INSTRUCTIONS);
            numbers = new Row(MOST_INSTRUCTIONS);
            lefts = new Row(MOST_INSTRUCTIONS);
            rights = new Row(MOST_INSTRUCTIONS);
            length = 0;
            busySlots = new Row(MOST_SLOTS);
            places = new Row(FIRST_SLOT + MOST_SLOTS);
            machine = 0;
        }

        int length() {
            return length;
        }

        char kind(int index) {
            return (char) kinds.get(index);
        }

        int register(int index) {
            return registers.get(index);
        }

        int stores() {
            int found = 0;
            for (int index = 0; index < length; index++) {
                if (kinds.get(index) == STORE) {
                    found++;
                }
            }
            return found;
        }

        /** As a store takes the least free slot, all slots below a used one are used too. */
        int slots() {
            int used = 0;
            for (int index = 0; index < length; index++) {
                if (kinds.get(index) == STORE) {
                    used = Math.max(used, numbers.get(index) + 1);
                }
            }
            return used;
        }

        void translate(Tree tree, int registersOfMachine) {
            gauge.need(tree);
            machine = registersOfMachine;
            length = 0;
            translateNode(tree, tree.root(), 0, 1);
        }

        private void translateNode(Tree tree, int node, int register, int level) {
            if (level > DEEPEST) {
                return;
            }
            int kind = tree.kind(node);
            if (isOperator(kind)) {
                translateOperator(tree, node, register, level);
            } else if (kind == NEGATION) {
                translateNode(tree, tree.left(node), register, level + 1);
                add(NEGATION, register, 0, register, NONE);
            } else {
                add(kind, register, tree.number(node), NONE, NONE);
            }
        }

        private void translateOperator(Tree tree, int node, int register, int level) {
            int left = tree.left(node);
            int right = tree.right(node);
            boolean isLeftFirst = gauge.needOf(left) >= gauge.needOf(right);
            int other = isLeftFirst ? right : left;
            translateNode(tree, isLeftFirst ? left : right, register, level + 1);
            int placeOfFirst = register;
            int placeOfOther = register + 1;
            if (gauge.needOf(other) < machine - register) {
                translateNode(tree, other, register + 1, level + 1);
            } else {
                int slot = takeSlot();
                add(STORE, register, slot, register, NONE);
                translateNode(tree, other, register, level + 1);
                busySlots.set(slot, 0);
                placeOfFirst = FIRST_SLOT + slot;
                placeOfOther = register;
            }
            add(tree.kind(node), register, 0,
                    isLeftFirst ? placeOfFirst : placeOfOther, isLeftFirst ? placeOfOther : placeOfFirst);
        }

        private int takeSlot() {
            int slot = 0;
            while (slot < MOST_SLOTS && busySlots.get(slot) != 0) {
                slot++;
            }
            busySlots.set(slot, 1);
            return slot;
        }

        private void add(int kind, int register, int number, int left, int right) {
            if (length < MOST_INSTRUCTIONS) {
                kinds.set(length, kind);
                registers.set(length, register);
                numbers.set(length, number);
                lefts.set(length, left);
                rights.set(length, right);
                length++;
            }
        }

        int run(Row letters) {
            for (int index = 0; index < length; index++) {
                carryOut(index, letters);
            }
            return places.get(0);
        }

        private void carryOut(int index, Row letters) {
            int kind = kinds.get(index);
            int register = registers.get(index);
            int number = numbers.get(index);
            if (kind == CONSTANT) {
                places.set(register, number);
            } else if (kind == VARIABLE) {
                places.set(register, letters.get(number - FIRST_LETTER));
            } else if (kind == STORE) {
                places.set(FIRST_SLOT + number, places.get(register));
            } else {
                places.set(register, operate(kind, places.get(lefts.get(index)), places.get(rights.get(index))));
            }
        }

        void write(int index, StringBuilder text) {
            int kind = kinds.get(index);
            writePlace(kind == STORE ? FIRST_SLOT + numbers.get(index) : registers.get(index), text);
            text.append('=');
            if (kind == CONSTANT) {
                text.append(numbers.get(index));
            } else if (kind == VARIABLE) {
                text.append((char) numbers.get(index));
            } else if (kind == STORE) {
                writePlace(lefts.get(index), text);
            } else if (kind == NEGATION) {
                text.append('-');
                writePlace(lefts.get(index), text);
            } else {
                writePlace(lefts.get(index), text);
                text.append((char) kind);
                writePlace(rights.get(index), text);
            }
        }

        private static void writePlace(int place, StringBuilder text) {
            boolean isSlot = place >= FIRST_SLOT;
            text.append(isSlot ? 'm' : 'r');
            text.append(isSlot ? place - FIRST_SLOT : place);
        }
    }

    /** What can be undone and saved; formulas are never changed once they stand here. */
    private static final class State {
        private final Tree[] formulas;
        private int total;
        private final Row letters;
        private int machine;
        private int removed;

        State() {
            formulas = new Tree[MOST_FORMULAS];
            total = 0;
            letters = new Row(LETTERS);
            machine = FIRST_REGISTERS;
            removed = 0;
        }

        int total() {
            return total;
        }

        Row letters() {
            return letters;
        }

        int machine() {
            return machine;
        }

        int removed() {
            return removed;
        }

        /** Returns null if there is no such formula. */
        Tree formula(int index) {
            return index >= 0 && index < total && index < formulas.length ? formulas[index] : null;
        }

        int append(Tree formula) {
            total++;
            replace(total - 1, formula);
            return total - 1;
        }

        void replace(int index, Tree formula) {
            if (index >= 0 && index < formulas.length) {
                formulas[index] = formula;
            }
        }

        void remove(int index) {
            for (int later = index; later < total; later++) {
                replace(later, formula(later + 1));
            }
            total--;
        }

        void countRemoved(int nodes) {
            removed += nodes;
        }

        int changeLetter(char letter, int number) {
            int previous = letters.get(letter - FIRST_LETTER);
            letters.set(letter - FIRST_LETTER, number);
            return previous;
        }

        int changeMachine(int registers) {
            int previous = machine;
            machine = registers;
            return previous;
        }

        void copy(State other) {
            total = other.total;
            for (int index = 0; index < formulas.length; index++) {
                formulas[index] = other.formula(index);
            }
            letters.copy(other.letters);
            machine = other.machine;
            removed = other.removed;
        }
    }

    /** The states before the latest recorded calls, in a ring, so that the oldest gives way. */
    private static final class History {
        private final State[] states;
        private int next;
        private int total;

        History() {
            states = new State[MOST_UNDONE];
            for (int index = 0; index < states.length; index++) {
                states[index] = new State();
            }
            next = 0;
            total = 0;
        }

        int total() {
            return total;
        }

        void remember(State state) {
            State target = stateAt(next);
            if (target != null) {
                target.copy(state);
            }
            next = (next + 1) % MOST_UNDONE;
            total = Math.min(total + 1, MOST_UNDONE);
        }

        void takeBack(State state) {
            next = (next + MOST_UNDONE - 1) % MOST_UNDONE;
            total = Math.max(total - 1, 0);
            State source = stateAt(next);
            if (source != null) {
                state.copy(source);
            }
        }

        void forget() {
            total = 0;
        }

        private State stateAt(int index) {
            return index >= 0 && index < states.length ? states[index] : null;
        }
    }
}
