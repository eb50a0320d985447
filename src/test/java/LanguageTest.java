import com.sun.source.tree.ArrayAccessTree;
import com.sun.source.tree.AssertTree;
import com.sun.source.tree.BinaryTree;
import com.sun.source.tree.BlockTree;
import com.sun.source.tree.ClassTree;
import com.sun.source.tree.CompilationUnitTree;
import com.sun.source.tree.CompoundAssignmentTree;
import com.sun.source.tree.ConditionalExpressionTree;
import com.sun.source.tree.DoWhileLoopTree;
import com.sun.source.tree.ExpressionTree;
import com.sun.source.tree.ForLoopTree;
import com.sun.source.tree.IdentifierTree;
import com.sun.source.tree.IfTree;
import com.sun.source.tree.ImportTree;
import com.sun.source.tree.InstanceOfTree;
import com.sun.source.tree.LambdaExpressionTree;
import com.sun.source.tree.LiteralTree;
import com.sun.source.tree.MemberReferenceTree;
import com.sun.source.tree.MemberSelectTree;
import com.sun.source.tree.MethodInvocationTree;
import com.sun.source.tree.MethodTree;
import com.sun.source.tree.NewArrayTree;
import com.sun.source.tree.NewClassTree;
import com.sun.source.tree.ParenthesizedTree;
import com.sun.source.tree.SynchronizedTree;
import com.sun.source.tree.ThrowTree;
import com.sun.source.tree.Tree;
import com.sun.source.tree.TryTree;
import com.sun.source.tree.TypeCastTree;
import com.sun.source.tree.VariableTree;
import com.sun.source.tree.WhileLoopTree;
import com.sun.source.util.JavacTask;
import com.sun.source.util.SourcePositions;
import com.sun.source.util.TreePath;
import com.sun.source.util.TreePathScanner;
import com.sun.source.util.Trees;
import java.io.IOException;
import java.nio.file.Files;
import java.nio.file.Path;
import java.util.ArrayList;
import java.util.Arrays;
import java.util.LinkedHashMap;
import java.util.LinkedHashSet;
import java.util.List;
import java.util.Map;
import java.util.Set;
import java.util.TreeSet;
import java.util.function.Predicate;
import javax.lang.model.element.Element;
import javax.lang.model.element.ExecutableElement;
import javax.lang.model.element.Modifier;
import javax.lang.model.element.TypeElement;
import javax.lang.model.element.VariableElement;
import javax.lang.model.type.ArrayType;
import javax.lang.model.type.TypeKind;
import javax.lang.model.type.TypeMirror;
import javax.tools.JavaCompiler;
import javax.tools.StandardJavaFileManager;
import javax.tools.ToolProvider;

/** The rules of ../shared/LANGUAGE.md, by their numbers, on the trees that javac makes of the class. */
final class LanguageTest {
    private static final Path SOURCE = Path.of("src/main/java/ExpressionCompiler.java");
    private static final String FACE = "ExpressionCompiler";
    private static final Due DUE = new Due();

    private static final Set<String> IMPORTS = Set.of("java.util.NoSuchElementException", "java.util.ArrayList",
            "java.util.List", "java.util.Arrays", "java.util.Iterator");
    private static final Set<String> EXCEPTIONS = Set.of("IllegalStateException", "IllegalArgumentException",
            "IndexOutOfBoundsException", "ArithmeticException", "UnsupportedOperationException",
            "NoSuchElementException", "RuntimeException");
    private static final Set<String> LIBRARY_TYPES = Set.of("java.lang.String", "java.lang.StringBuilder");
    private static final Map<String, Set<String>> LIBRARY = Map.of(
            "java.lang.String",
            Set.of("length", "charAt", "isEmpty", "equals", "indexOf", "substring", "toCharArray"),
            "java.lang.StringBuilder",
            Set.of("append", "charAt", "setCharAt", "setLength", "deleteCharAt", "reverse", "length", "toString"),
            "java.util.ArrayList", Set.of("add", "get", "set", "remove", "size", "isEmpty", "clear"),
            "java.util.List", Set.of("add", "get", "set", "remove", "size", "isEmpty", "clear", "of"),
            "java.lang.System", Set.of("arraycopy"),
            "java.util.Arrays", Set.of("copyOf", "copyOfRange", "fill"));
    private static final Set<TypeKind> WHOLE = Set.of(TypeKind.INT, TypeKind.LONG, TypeKind.CHAR, TypeKind.BYTE,
            TypeKind.SHORT);
    private static final Set<TypeKind> FLOATING = Set.of(TypeKind.DOUBLE, TypeKind.FLOAT);

    private static CompilationUnitTree unit;
    private static Trees trees;
    private static String text;

    /** Says where something stands, and counts what is not as the rule wants it. */
    private static void rule(int number, Tree tree, String what, boolean isKept) {
        long line = unit.getLineMap().getLineNumber(trees.getSourcePositions().getStartPosition(unit, tree));
        DUE.is("rule " + number + ", line " + line + ": " + what, true, isKept);
    }

    private static void read() throws IOException {
        JavaCompiler compiler = ToolProvider.getSystemJavaCompiler();
        StandardJavaFileManager files = compiler.getStandardFileManager(null, null, null);
        JavacTask task = (JavacTask) compiler.getTask(null, files, null, null, null, files.getJavaFileObjects(SOURCE));
        unit = task.parse().iterator().next();
        task.analyze();
        trees = Trees.instance(task);
        text = Files.readString(SOURCE);
    }

    /** Walks through the class; a rule overrides what it looks at. */
    private abstract static class Walk extends TreePathScanner<Void, Void> {
        Walk begin() {
            scan(unit, null);
            return this;
        }

        Element element() {
            return trees.getElement(getCurrentPath());
        }

        TypeMirror typeOf(Tree part) {
            return trees.getTypeMirror(new TreePath(getCurrentPath(), part));
        }

        /** The nearest tree around the present one that is of this class, or null. */
        <T extends Tree> T around(Class<T> wanted) {
            for (TreePath path = getCurrentPath().getParentPath(); path != null; path = path.getParentPath()) {
                if (wanted.isInstance(path.getLeaf())) {
                    return wanted.cast(path.getLeaf());
                }
            }
            return null;
        }

        boolean isInConstructor() {
            MethodTree method = around(MethodTree.class);
            return method != null && method.getReturnType() == null;
        }
    }

    private static boolean isOwn(Element element) {
        Element owner = element;
        while (owner != null && owner.getEnclosingElement() instanceof TypeElement) {
            owner = owner.getEnclosingElement();
        }
        return owner instanceof TypeElement && owner.getSimpleName().contentEquals(FACE);
    }

    private static boolean isOwnType(TypeMirror type) {
        return type.getKind() == TypeKind.DECLARED && (type.toString().equals(FACE) || type.toString().startsWith(FACE + "."));
    }

    /** "The face": one public final class without a package, whose other members are private. */
    private static void theFace() {
        DUE.is("rule 1: package", null, unit.getPackageName());
        DUE.is("rule 1: classes outside", 1, unit.getTypeDecls().size());
        ClassTree face = (ClassTree) unit.getTypeDecls().get(0);
        DUE.is("rule 1: modifiers", Set.of(Modifier.PUBLIC, Modifier.FINAL), face.getModifiers().getFlags());
        Set<String> names = new TreeSet<>();
        new Walk() {
            @Override
            public Void visitMethod(MethodTree method, Void nothing) {
                if (method.getModifiers().getFlags().contains(Modifier.PUBLIC)) {
                    names.add(method.getName().toString());
                    rule(1, method, "a public method of a class inside", around(ClassTree.class) == face);
                }
                return super.visitMethod(method, nothing);
            }
        }.begin();
        names.remove("<init>");
        DUE.is("rule 1: public methods", 46, names.size());
        new Walk() {
            @Override
            public Void visitMethod(MethodTree method, Void nothing) {
                Set<Modifier> flags = method.getModifiers().getFlags();
                if (!flags.contains(Modifier.PUBLIC)) {
                    rule(1, method, method.getName() + " bears the name of a public method",
                            !names.contains(method.getName().toString()));
                    rule(1, method, method.getName() + " is not private",
                            flags.contains(Modifier.PRIVATE) || around(ClassTree.class) != face);
                }
                return super.visitMethod(method, nothing);
            }

            @Override
            public Void visitVariable(VariableTree variable, Void nothing) {
                if (getCurrentPath().getParentPath().getLeaf() == face) {
                    rule(1, variable, variable.getName() + " is not private",
                            variable.getModifiers().getFlags().contains(Modifier.PRIVATE));
                }
                return super.visitVariable(variable, nothing);
            }

            @Override
            public Void visitClass(ClassTree inside, Void nothing) {
                Set<Modifier> flags = inside.getModifiers().getFlags();
                rule(1, inside, inside.getSimpleName() + " is open or not static", inside == face
                        || flags.contains(Modifier.STATIC) && !flags.contains(Modifier.PUBLIC)
                        && !flags.contains(Modifier.PROTECTED));
                return super.visitClass(inside, nothing);
            }
        }.begin();
    }

    /** "Classes inside": none in a method, no lambda, no method reference. */
    private static void classesInside() {
        new Walk() {
            @Override
            public Void visitClass(ClassTree inside, Void nothing) {
                rule(2, inside, "a class in a method", around(MethodTree.class) == null);
                return super.visitClass(inside, nothing);
            }

            @Override
            public Void visitLambdaExpression(LambdaExpressionTree lambda, Void nothing) {
                rule(2, lambda, "a lambda", false);
                return null;
            }

            @Override
            public Void visitMemberReference(MemberReferenceTree reference, Void nothing) {
                rule(2, reference, "a method reference", false);
                return null;
            }
        }.begin();
    }

    private static boolean isPermitted(TypeMirror type) {
        if (type.getKind() == TypeKind.ARRAY) {
            TypeMirror part = ((ArrayType) type).getComponentType();
            boolean isFlat = part.getKind() != TypeKind.ARRAY || ((ArrayType) part).getComponentType().getKind().isPrimitive();
            return isFlat && isPermitted(part);
        }
        return type.getKind().isPrimitive() || type.getKind() == TypeKind.VOID || isOwnType(type)
                || LIBRARY_TYPES.contains(type.toString());
    }

    /** "Types": of variables and methods; on doubles and floats only + - * /, comparisons and casts; plain texts. */
    private static void types() {
        new Walk() {
            @Override
            public Void visitVariable(VariableTree variable, Void nothing) {
                rule(3, variable, "type of " + variable.getName(), isPermitted(typeOf(variable.getType())));
                return super.visitVariable(variable, nothing);
            }

            @Override
            public Void visitMethod(MethodTree method, Void nothing) {
                if (method.getReturnType() != null) {
                    rule(3, method, "type of " + method.getName(), isPermitted(typeOf(method.getReturnType())));
                }
                return super.visitMethod(method, nothing);
            }

            @Override
            public Void visitBinary(BinaryTree binary, Void nothing) {
                if (FLOATING.contains(typeOf(binary.getLeftOperand()).getKind())) {
                    rule(3, binary, "the remainder of a double or float", binary.getKind() != Tree.Kind.REMAINDER);
                }
                return super.visitBinary(binary, nothing);
            }

            @Override
            public Void visitLiteral(LiteralTree literal, Void nothing) {
                String sign = String.valueOf(literal.getValue());
                rule(3, literal, "a sign beyond 127", sign.chars().allMatch(c -> c <= 127));
                return null;
            }
        }.begin();
    }

    private static boolean isPermittedCall(ExecutableElement method) {
        // What StringBuilder inherits belongs to a class that cannot be seen outside the library.
        String owner = method.getEnclosingElement().toString().replace("AbstractStringBuilder", "StringBuilder");
        String name = method.getSimpleName().toString();
        if (isOwn(method.getEnclosingElement()) || owner.equals("java.lang.Object") && name.equals("<init>")) {
            return true;
        }
        List<String> types = new ArrayList<>();
        for (VariableElement parameter : method.getParameters()) {
            types.add(parameter.asType().toString());
        }
        if (Set.of("java.lang.Math", "java.lang.Integer", "java.lang.Long").contains(owner)) {
            return method.getModifiers().contains(Modifier.STATIC) && !name.endsWith("Exact")
                    && Set.of("int", "long").containsAll(types);
        }
        if (name.equals("append")) {
            return Set.of("char", "int", "java.lang.String").containsAll(types);
        }
        return LIBRARY.getOrDefault(owner, Set.of()).contains(name);
    }

    /** "The library: only what stands here." */
    private static void theLibrary() {
        new Walk() {
            @Override
            public Void visitImport(ImportTree imported, Void nothing) {
                String name = imported.getQualifiedIdentifier().toString();
                rule(4, imported, "import of " + name, IMPORTS.contains(name) && !imported.isStatic());
                return super.visitImport(imported, nothing);
            }

            @Override
            public Void visitMethodInvocation(MethodInvocationTree call, Void nothing) {
                rule(4, call, "call of " + element(), isPermittedCall((ExecutableElement) element()));
                return super.visitMethodInvocation(call, nothing);
            }

            @Override
            public Void visitNewClass(NewClassTree made, Void nothing) {
                TypeMirror type = typeOf(made.getIdentifier());
                boolean isEmptyText = type.toString().equals("java.lang.StringBuilder") && made.getArguments().isEmpty();
                boolean isException = EXCEPTIONS.contains(made.getIdentifier().toString());
                rule(4, made, "new " + type, isOwnType(type) || isException || isEmptyText);
                return super.visitNewClass(made, nothing);
            }
        }.begin();
    }

    /** "Static fields are final: constants"; "no other static state, no static initialiser block". */
    private static void staticFields() {
        new Walk() {
            @Override
            public Void visitVariable(VariableTree variable, Void nothing) {
                Set<Modifier> flags = variable.getModifiers().getFlags();
                if (flags.contains(Modifier.STATIC)) {
                    Object constant = ((VariableElement) element()).getConstantValue();
                    rule(5, variable, variable.getName() + " is no constant",
                            flags.contains(Modifier.FINAL) && constant != null);
                }
                return super.visitVariable(variable, nothing);
            }

            @Override
            public Void visitBlock(BlockTree block, Void nothing) {
                rule(5, block, "a block of a class", !(getCurrentPath().getParentPath().getLeaf() instanceof ClassTree));
                return super.visitBlock(block, nothing);
            }
        }.begin();
    }

    /** "Exceptions": what is thrown, and where; the class needs none of the other statements. */
    private static void exceptions() {
        new Walk() {
            @Override
            public Void visitThrow(ThrowTree thrown, Void nothing) {
                rule(6, thrown, "thrown otherwise", isPlain(thrown.getExpression()));
                rule(6, thrown, "thrown in a constructor", !isInConstructor());
                return super.visitThrow(thrown, nothing);
            }

            private boolean isPlain(ExpressionTree expression) {
                if (!(expression instanceof NewClassTree)) {
                    return false;
                }
                NewClassTree made = (NewClassTree) expression;
                boolean hasText = made.getArguments().stream().allMatch(part -> part.getKind() == Tree.Kind.STRING_LITERAL);
                return EXCEPTIONS.contains(made.getIdentifier().toString()) && hasText && made.getArguments().size() <= 1;
            }

            @Override
            public Void visitTry(TryTree attempt, Void nothing) {
                rule(6, attempt, "a try", false);
                return null;
            }

            @Override
            public Void visitSynchronized(SynchronizedTree block, Void nothing) {
                rule(6, block, "a synchronized", false);
                return null;
            }

            @Override
            public Void visitAssert(AssertTree claim, Void nothing) {
                rule(6, claim, "an assert", false);
                return null;
            }

            @Override
            public Void visitInstanceOf(InstanceOfTree question, Void nothing) {
                rule(6, question, "an instanceof", false);
                return null;
            }

            @Override
            public Void visitTypeCast(TypeCastTree cast, Void nothing) {
                rule(6, cast, "a cast of an object", typeOf(cast.getType()).getKind().isPrimitive());
                return super.visitTypeCast(cast, nothing);
            }

            @Override
            public Void visitClass(ClassTree type, Void nothing) {
                boolean isPlain = type.getExtendsClause() == null || isOwnType(typeOf(type.getExtendsClause()));
                rule(6, type, type.getSimpleName() + " extends the library", isPlain);
                return super.visitClass(type, nothing);
            }

            @Override
            public Void visitMethod(MethodTree method, Void nothing) {
                rule(6, method, "a synchronized", !method.getModifiers().getFlags().contains(Modifier.SYNCHRONIZED));
                rule(6, method, "a method of each object",
                        !Set.of("equals", "hashCode", "toString", "finalize").contains(method.getName().toString()));
                return super.visitMethod(method, nothing);
            }

            @Override
            public Void visitBinary(BinaryTree binary, Void nothing) {
                if (binary.getKind() == Tree.Kind.EQUAL_TO || binary.getKind() == Tree.Kind.NOT_EQUAL_TO) {
                    rule(6, binary, "two texts compared as objects",
                            !typeOf(binary.getLeftOperand()).toString().equals("java.lang.String"));
                }
                return super.visitBinary(binary, nothing);
            }
        }.begin();
    }

    /** The parts of a condition that are joined by &&. */
    private static List<String> parts(ExpressionTree condition) {
        ExpressionTree bare = condition;
        while (bare instanceof ParenthesizedTree) {
            bare = ((ParenthesizedTree) bare).getExpression();
        }
        List<String> parts = new ArrayList<>();
        if (bare.getKind() == Tree.Kind.CONDITIONAL_AND) {
            parts.addAll(parts(((BinaryTree) bare).getLeftOperand()));
            parts.addAll(parts(((BinaryTree) bare).getRightOperand()));
        } else {
            parts.add(bare.toString());
        }
        return parts;
    }

    /** "An index is looked at before it is used, a divisor before it divides, a reference against null". */
    private static void looksBefore() {
        Set<Element> mayBeNull = methodsThatMayAnswerNull();
        new Walk() {
            /** All that holds where the present tree is reached. */
            private List<String> conditions() {
                List<String> holding = new ArrayList<>();
                Tree inner = getCurrentPath().getLeaf();
                for (TreePath path = getCurrentPath().getParentPath(); path != null; path = path.getParentPath()) {
                    Tree outer = path.getLeaf();
                    if (outer instanceof IfTree && ((IfTree) outer).getThenStatement() == inner) {
                        holding.addAll(parts(((IfTree) outer).getCondition()));
                    } else if (outer instanceof ConditionalExpressionTree
                            && ((ConditionalExpressionTree) outer).getTrueExpression() == inner) {
                        holding.addAll(parts(((ConditionalExpressionTree) outer).getCondition()));
                    } else if (outer instanceof ForLoopTree && ((ForLoopTree) outer).getStatement() == inner) {
                        ForLoopTree loop = (ForLoopTree) outer;
                        holding.addAll(parts(loop.getCondition()));
                        VariableTree counter = (VariableTree) loop.getInitializer().get(0);
                        if (counter.getInitializer().toString().equals("0")) {
                            holding.add(counter.getName() + " >= 0");
                        }
                    }
                    inner = outer;
                }
                return holding;
            }

            @Override
            public Void visitArrayAccess(ArrayAccessTree access, Void nothing) {
                String index = access.getIndex().toString();
                List<String> wanted = List.of(index + " >= 0", index + " < " + access.getExpression() + ".length");
                rule(7, access, "an index is not looked at: " + access, conditions().containsAll(wanted));
                boolean isAsked = getCurrentPath().getParentPath().getLeaf() instanceof MemberSelectTree;
                rule(7, access, "an element is not looked at: " + access, !isAsked);
                return super.visitArrayAccess(access, nothing);
            }

            @Override
            public Void visitBinary(BinaryTree binary, Void nothing) {
                boolean divides = binary.getKind() == Tree.Kind.DIVIDE || binary.getKind() == Tree.Kind.REMAINDER;
                if (divides && !FLOATING.contains(typeOf(binary).getKind())) {
                    rule(7, binary, "a divisor is not looked at: " + binary, isPositive(binary.getRightOperand()));
                }
                return super.visitBinary(binary, nothing);
            }

            @Override
            public Void visitCompoundAssignment(CompoundAssignmentTree change, Void nothing) {
                rule(7, change, "a divisor is not looked at: " + change,
                        change.getKind() != Tree.Kind.DIVIDE_ASSIGNMENT && change.getKind() != Tree.Kind.REMAINDER_ASSIGNMENT);
                return super.visitCompoundAssignment(change, nothing);
            }

            private boolean isPositive(Tree part) {
                Element named = trees.getElement(new TreePath(getCurrentPath(), part));
                Object constant = part instanceof LiteralTree ? ((LiteralTree) part).getValue()
                        : named instanceof VariableElement ? ((VariableElement) named).getConstantValue() : null;
                return constant instanceof Integer && (Integer) constant > 0;
            }

            @Override
            public Void visitNewArray(NewArrayTree made, Void nothing) {
                for (ExpressionTree length : made.getDimensions()) {
                    boolean isTested = length.toString().matches("(\\w+) > 0 \\? \\1 : 0");
                    rule(7, made, "a length is not looked at: " + made, isTested || isPositive(length));
                }
                return super.visitNewArray(made, nothing);
            }

            @Override
            public Void visitMethodInvocation(MethodInvocationTree call, Void nothing) {
                if (mayBeNull.contains(element())) {
                    Tree parent = getCurrentPath().getParentPath().getLeaf();
                    rule(7, call, "may be null: " + call, !(parent instanceof MemberSelectTree));
                    if (parent instanceof VariableTree) {
                        String name = ((VariableTree) parent).getName().toString();
                        String body = around(MethodTree.class).getBody().toString();
                        rule(7, call, name + " is not compared with null",
                                body.contains("if (" + name + " == null)") || body.contains("if (" + name + " != null)"));
                    }
                }
                return super.visitMethodInvocation(call, nothing);
            }
        }.begin();
    }

    private static Set<Element> methodsThatMayAnswerNull() {
        Set<Element> found = new LinkedHashSet<>();
        new Walk() {
            @Override
            public Void visitMethod(MethodTree method, Void nothing) {
                if (method.getBody() != null && method.getBody().toString().matches("(?s).*(return null;|: null).*")) {
                    found.add(element());
                }
                return super.visitMethod(method, nothing);
            }
        }.begin();
        return found;
    }

    /** One call of an own method in another, with its arguments. */
    private record Call(ExecutableElement from, ExecutableElement to, List<String> arguments) {
        /** What is given for the parameter that carries the depth: "level", "level + 1" or something else. */
        String depth() {
            for (int index = 0; index < to.getParameters().size(); index++) {
                if (isDepth(to.getParameters().get(index))) {
                    return arguments.get(index);
                }
            }
            return "";
        }

        boolean keepsDepth() {
            return depth().matches("level|open");
        }

        boolean raisesDepth() {
            return depth().matches("(level|open) \\+ 1");
        }

        static boolean isDepth(VariableElement parameter) {
            return Set.of("level", "open").contains(parameter.getSimpleName().toString());
        }
    }

    private static List<Call> ownCalls() {
        List<Call> found = new ArrayList<>();
        new Walk() {
            @Override
            public Void visitMethodInvocation(MethodInvocationTree call, Void nothing) {
                keep(call.getArguments());
                return super.visitMethodInvocation(call, nothing);
            }

            @Override
            public Void visitNewClass(NewClassTree made, Void nothing) {
                keep(made.getArguments());
                return super.visitNewClass(made, nothing);
            }

            private void keep(List<? extends ExpressionTree> given) {
                ExecutableElement called = (ExecutableElement) element();
                if (isOwn(called.getEnclosingElement())) {
                    MethodTree method = around(MethodTree.class);
                    Element caller = trees.getElement(TreePath.getPath(unit, method));
                    List<String> arguments = new ArrayList<>();
                    given.forEach(part -> arguments.add(part.toString()));
                    found.add(new Call((ExecutableElement) caller, called, arguments));
                }
            }
        }.begin();
        return found;
    }

    /** All methods that can be reached by these calls from a method, itself only if it is called again. */
    private static Set<ExecutableElement> reached(ExecutableElement from, List<Call> calls) {
        Set<ExecutableElement> found = new LinkedHashSet<>();
        List<ExecutableElement> next = new ArrayList<>(List.of(from));
        while (!next.isEmpty()) {
            ExecutableElement method = next.remove(0);
            for (Call call : calls) {
                if (call.from().equals(method) && found.add(call.to())) {
                    next.add(call.to());
                }
            }
        }
        return found;
    }

    /** "Recursion": the depth is carried as an argument, each turn raises it, and what goes deeper is refused. */
    private static void recursion() {
        List<Call> calls = ownCalls();
        Map<ExecutableElement, Set<ExecutableElement>> reach = new LinkedHashMap<>();
        calls.forEach(call -> reach.computeIfAbsent(call.from(), method -> reached(method, calls)));
        Predicate<Call> isTurn = call -> reach.getOrDefault(call.to(), Set.of()).contains(call.from());
        List<Call> turns = calls.stream().filter(isTurn).toList();
        List<Call> flat = turns.stream().filter(call -> !call.raisesDepth()).toList();
        DUE.is("rule 8: the class has recursion", true, turns.size() > 0);
        for (Call call : turns) {
            DUE.is("rule 8: " + call + " carries the depth", true, call.keepsDepth() || call.raisesDepth());
            DUE.is("rule 8: " + call + " raises the depth at some turn", false,
                    reached(call.from(), flat).contains(call.from()));
            boolean isGuarded = reach.get(call.from()).stream().anyMatch(LanguageTest::refusesDepth);
            DUE.is("rule 8: the depth is refused below " + call, true, isGuarded);
        }
        List<Call> straight = calls.stream().filter(isTurn.negate()).toList();
        for (ExecutableElement method : reach.keySet()) {
            int longest = longestChain(method, straight, 0);
            DUE.is("rule 11: calls of " + method + " go " + longest + " deep", true, longest <= 8);
        }
    }

    private static boolean refusesDepth(ExecutableElement method) {
        String body = trees.getTree(method).getBody().toString();
        return body.contains("level > DEEPEST") || body.contains("open < MOST_OPEN");
    }

    private static int longestChain(ExecutableElement method, List<Call> calls, int depth) {
        int longest = 1;
        for (Call call : calls) {
            if (call.from().equals(method) && depth < 40) {
                longest = Math.max(longest, 1 + longestChain(call.to(), calls, depth + 1));
            }
        }
        return longest;
    }

    /** "Every loop has an end that can be seen from its own lines": a counter against a bound. */
    private static void loops() {
        new Walk() {
            @Override
            public Void visitForLoop(ForLoopTree loop, Void nothing) {
                counted(loop, loop.getCondition(), loop.getUpdate().toString());
                return super.visitForLoop(loop, nothing);
            }

            @Override
            public Void visitWhileLoop(WhileLoopTree loop, Void nothing) {
                counted(loop, loop.getCondition(), loop.getStatement().toString());
                return super.visitWhileLoop(loop, nothing);
            }

            @Override
            public Void visitDoWhileLoop(DoWhileLoopTree loop, Void nothing) {
                counted(loop, loop.getCondition(), loop.getStatement().toString());
                return super.visitDoWhileLoop(loop, nothing);
            }

            private void counted(Tree loop, ExpressionTree condition, String steps) {
                boolean isCounted = condition != null && parts(condition).stream().anyMatch(
                        part -> part.matches("\\w+ <=? .*") && steps.contains(part.split(" ")[0] + "++"));
                rule(9, loop, "no counter goes against a bound", isCounted);
            }
        }.begin();
    }

    /** "Joining texts by StringBuilder (not by +)". */
    private static void joinedTexts() {
        new Walk() {
            @Override
            public Void visitBinary(BinaryTree binary, Void nothing) {
                rule(10, binary, "texts joined by +", !typeOf(binary).toString().equals("java.lang.String"));
                return super.visitBinary(binary, nothing);
            }

            @Override
            public Void visitCompoundAssignment(CompoundAssignmentTree change, Void nothing) {
                rule(10, change, "texts joined by +=", typeOf(change.getVariable()).getKind().isPrimitive());
                return super.visitCompoundAssignment(change, nothing);
            }
        }.begin();
    }

    /** "At most seven parameters", "some sixty lines", "some twelve classes", "some twenty fields". */
    private static void sizes() {
        List<String> classes = new ArrayList<>();
        SourcePositions positions = trees.getSourcePositions();
        new Walk() {
            @Override
            public Void visitMethod(MethodTree method, Void nothing) {
                long first = unit.getLineMap().getLineNumber(positions.getStartPosition(unit, method));
                long last = unit.getLineMap().getLineNumber(Math.max(positions.getEndPosition(unit, method), 1));
                rule(11, method, "parameters of " + method.getName(), method.getParameters().size() <= 7);
                rule(11, method, "lines of " + method.getName(), last - first < 60);
                return super.visitMethod(method, nothing);
            }

            @Override
            public Void visitClass(ClassTree type, Void nothing) {
                classes.add(type.getSimpleName().toString());
                long fields = type.getMembers().stream().filter(member -> member instanceof VariableTree)
                        .filter(member -> !((VariableTree) member).getModifiers().getFlags().contains(Modifier.STATIC)).count();
                rule(11, type, fields + " fields", fields <= 20);
                return super.visitClass(type, nothing);
            }
        }.begin();
        DUE.is("rule 11: " + classes.size() + " classes", true, classes.size() <= 12);
    }

    /** "A constructor calls no method that another class could override and hands out nothing of the object". */
    private static void constructors() {
        new Walk() {
            @Override
            public Void visitClass(ClassTree type, Void nothing) {
                rule(12, type, type.getSimpleName() + " is not final", type.getModifiers().getFlags().contains(Modifier.FINAL));
                return super.visitClass(type, nothing);
            }

            @Override
            public Void visitIdentifier(IdentifierTree name, Void nothing) {
                rule(12, name, "a constructor hands itself out", !(name.getName().contentEquals("this") && isInConstructor()));
                return null;
            }
        }.begin();
    }

    /** "The same calls always give the same answers": nothing of the machine around it is asked. */
    private static void sameAnswers() {
        for (String word : Arrays.asList("Random", "Thread", "System", "java.io", "java.nio", "java.time", "hashCode",
                "native", "volatile", "transient")) {
            DUE.is("rule 13: " + word + " stands in the class", false, text.contains(word));
        }
    }

    public static void main(String[] args) throws IOException {
        read();
        theFace();
        classesInside();
        types();
        theLibrary();
        staticFields();
        exceptions();
        looksBefore();
        recursion();
        loops();
        joinedTexts();
        sizes();
        constructors();
        sameAnswers();
        DUE.end();
    }
}
