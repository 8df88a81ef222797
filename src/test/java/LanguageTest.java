import com.sun.source.tree.AssertTree;
import com.sun.source.tree.BinaryTree;
import com.sun.source.tree.BlockTree;
import com.sun.source.tree.ClassTree;
import com.sun.source.tree.CompilationUnitTree;
import com.sun.source.tree.CompoundAssignmentTree;
import com.sun.source.tree.DoWhileLoopTree;
import com.sun.source.tree.EnhancedForLoopTree;
import com.sun.source.tree.ExpressionTree;
import com.sun.source.tree.ForLoopTree;
import com.sun.source.tree.InstanceOfTree;
import com.sun.source.tree.LambdaExpressionTree;
import com.sun.source.tree.LiteralTree;
import com.sun.source.tree.MemberReferenceTree;
import com.sun.source.tree.MethodInvocationTree;
import com.sun.source.tree.MethodTree;
import com.sun.source.tree.NewArrayTree;
import com.sun.source.tree.NewClassTree;
import com.sun.source.tree.ParenthesizedTree;
import com.sun.source.tree.StatementTree;
import com.sun.source.tree.SynchronizedTree;
import com.sun.source.tree.ThrowTree;
import com.sun.source.tree.Tree;
import com.sun.source.tree.TryTree;
import com.sun.source.tree.TypeCastTree;
import com.sun.source.tree.UnaryTree;
import com.sun.source.tree.VariableTree;
import com.sun.source.tree.WhileLoopTree;
import com.sun.source.util.JavacTask;
import com.sun.source.util.TreePath;
import com.sun.source.util.TreePathScanner;
import com.sun.source.util.Trees;
import java.io.File;
import java.io.IOException;
import java.util.Arrays;
import java.util.HashSet;
import java.util.LinkedHashMap;
import java.util.LinkedHashSet;
import java.util.List;
import java.util.Map;
import java.util.Set;
import java.util.regex.Pattern;
import javax.lang.model.element.Element;
import javax.lang.model.element.ElementKind;
import javax.lang.model.element.Modifier;
import javax.lang.model.type.TypeKind;
import javax.lang.model.type.TypeMirror;
import javax.lang.model.util.ElementFilter;
import javax.tools.JavaCompiler;
import javax.tools.StandardJavaFileManager;
import javax.tools.ToolProvider;

/** The rules of ../shared/LANGUAGE.md that the compiler's own tree of the source can show, told by their numbers. */
public final class LanguageTest {
    private static final String SOURCE = "src/main/java/CoverHouses.java";
    private static final int MOST_PARAMETERS = 7;
    private static final int MOST_LINES = 60;
    private static final int MOST_CALLS_OPEN = 8;
    private static final int MOST_CLASSES = 12;
    private static final int MOST_FIELDS = 20;
    private static final Set<String> PLAIN = new HashSet<>(Arrays.asList(
            "int", "long", "short", "byte", "char", "boolean", "double", "float"));
    private static final Set<String> LIBRARY_TYPES = new HashSet<>(Arrays.asList(
            "java.lang.String", "java.lang.StringBuilder", "java.lang.Integer"));
    private static final Set<String> STATIC_TYPES = new HashSet<>(Arrays.asList(
            "int", "long", "boolean", "char", "java.lang.String"));
    private static final Set<String> EXCEPTIONS = new HashSet<>(Arrays.asList("IllegalStateException",
            "IllegalArgumentException", "IndexOutOfBoundsException", "ArithmeticException",
            "UnsupportedOperationException", "NoSuchElementException", "RuntimeException"));
    private static final Set<String> LIBRARY = new HashSet<>(Arrays.asList("String.length", "String.charAt",
            "String.isEmpty", "String.equals", "String.indexOf", "String.substring", "String.toCharArray",
            "StringBuilder.append", "StringBuilder.charAt", "StringBuilder.setCharAt", "StringBuilder.setLength",
            "StringBuilder.deleteCharAt", "StringBuilder.reverse", "StringBuilder.length", "StringBuilder.toString",
            "Math.min", "Math.max", "Math.abs", "Math.floorDiv", "Math.floorMod", "Integer.bitCount", "Integer.compare",
            "Long.bitCount", "Long.compare", "System.arraycopy", "Arrays.copyOf", "Arrays.copyOfRange", "Arrays.fill"));

    private static int checks = 0;
    private static int wrong = 0;

    private LanguageTest() {
    }

    public static void main(String[] args) throws IOException {
        JavaCompiler compiler = ToolProvider.getSystemJavaCompiler();
        StandardJavaFileManager files = compiler.getStandardFileManager(null, null, null);
        JavacTask task = (JavacTask) compiler.getTask(null, files, null, Arrays.asList("-proc:none"), null,
                files.getJavaFileObjects(new File(args.length > 0 ? args[0] : SOURCE)));
        CompilationUnitTree unit = task.parse().iterator().next();
        task.analyze();
        Scan scan = new Scan(unit, Trees.instance(task));
        rule(1, unit.getPackageName() == null, "there is no package line");
        rule(1, unit.getTypeDecls().size() == 1, "there is one outer class");
        scan.scan(unit, null);
        rule(11, scan.classes <= MOST_CLASSES, "there are " + scan.classes + " classes");
        scan.lookAtCalls();
        System.out.println("LanguageTest: " + checks + " checks, " + wrong + " wrong");
        if (wrong > 0) {
            System.exit(1);
        }
    }

    private static void rule(int rule, boolean holds, String what) {
        checks++;
        if (!holds) {
            wrong++;
            System.out.println("rule " + rule + ": not so: " + what);
        }
    }

    /** Goes through the whole source; who calls whom is kept for the end. */
    private static final class Scan extends TreePathScanner<Void, Void> {
        private final CompilationUnitTree unit;
        private final Trees trees;
        private final Map<Element, Set<Element>> calls = new LinkedHashMap<>();
        private Element method = null;
        private MethodTree methodTree = null;
        private int classes = 0;

        Scan(CompilationUnitTree unit, Trees trees) {
            this.unit = unit;
            this.trees = trees;
        }

        private String place(Tree tree) {
            long at = trees.getSourcePositions().getStartPosition(unit, tree);
            return "line " + unit.getLineMap().getLineNumber(at);
        }

        private TypeMirror typeOf(Tree tree) {
            return trees.getTypeMirror(new TreePath(getCurrentPath(), tree));
        }

        private boolean isOurs(Element element) {
            Element outer = element;
            while (outer.getEnclosingElement().getKind() != ElementKind.PACKAGE) {
                outer = outer.getEnclosingElement();
            }
            return outer.getSimpleName().contentEquals("CoverHouses");
        }

        @Override
        public Void visitClass(ClassTree tree, Void none) {
            classes++;
            Element element = trees.getElement(getCurrentPath());
            boolean outer = element.getEnclosingElement().getKind() == ElementKind.PACKAGE;
            rule(2, outer || element.getModifiers().contains(Modifier.STATIC), place(tree) + ": the class is static");
            int fields = 0;
            for (Tree member : tree.getMembers()) {
                rule(5, !(member instanceof BlockTree), place(member) + ": there is no initialiser block");
                boolean isField = member instanceof VariableTree;
                boolean isStatic = isField && ((VariableTree) member).getModifiers().getFlags().contains(Modifier.STATIC);
                fields += isField && !isStatic ? 1 : 0;
            }
            rule(11, fields <= MOST_FIELDS, tree.getSimpleName() + " has " + fields + " fields");
            return super.visitClass(tree, none);
        }

        @Override
        public Void visitVariable(VariableTree tree, Void none) {
            Element element = trees.getElement(getCurrentPath());
            rule(3, isAllowed(element.asType()), place(tree) + ": the type " + element.asType());
            if (element.getModifiers().contains(Modifier.STATIC)) {
                rule(5, element.getModifiers().contains(Modifier.FINAL), place(tree) + ": the static field is final");
                rule(5, STATIC_TYPES.contains(element.asType().toString()), place(tree) + ": a constant's type");
            }
            return super.visitVariable(tree, none);
        }

        private boolean isAllowed(TypeMirror type) {
            String name = type.toString();
            String part = name.replace("[]", "");
            int dimensions = (name.length() - part.length()) / 2;
            boolean isPlain = PLAIN.contains(part);
            boolean isOwn = part.startsWith("CoverHouses");
            return dimensions == 0 ? isPlain || isOwn || LIBRARY_TYPES.contains(part)
                    : dimensions == 1 ? isPlain || isOwn : dimensions == 2 && isPlain;
        }

        @Override
        public Void visitMethod(MethodTree tree, Void none) {
            Element outerMethod = method;
            MethodTree outerTree = methodTree;
            method = trees.getElement(getCurrentPath());
            methodTree = tree;
            calls.putIfAbsent(method, new LinkedHashSet<>());
            rule(11, tree.getParameters().size() <= MOST_PARAMETERS, place(tree) + ": at most seven parameters");
            long from = unit.getLineMap().getLineNumber(trees.getSourcePositions().getStartPosition(unit, tree));
            long to = unit.getLineMap().getLineNumber(trees.getSourcePositions().getEndPosition(unit, tree));
            rule(11, to - from < MOST_LINES, place(tree) + ": the method has " + (to - from + 1) + " lines");
            super.visitMethod(tree, none);
            method = outerMethod;
            methodTree = outerTree;
            return null;
        }

        @Override
        public Void visitMethodInvocation(MethodInvocationTree tree, Void none) {
            Element called = trees.getElement(getCurrentPath());
            if (isOurs(called)) {
                keepCall(called);
            } else if (!called.getSimpleName().contentEquals("<init>")) {
                String name = called.getEnclosingElement().getSimpleName() + "." + called.getSimpleName();
                rule(4, LIBRARY.contains(name), place(tree) + ": the library's " + name);
            }
            return super.visitMethodInvocation(tree, none);
        }

        @Override
        public Void visitNewClass(NewClassTree tree, Void none) {
            rule(2, tree.getClassBody() == null, place(tree) + ": there is no anonymous class");
            Element made = trees.getElement(getCurrentPath());
            boolean isThrown = getCurrentPath().getParentPath().getLeaf() instanceof ThrowTree;
            rule(4, isThrown || isOurs(made), place(tree) + ": an object of " + made);
            if (isOurs(made)) {
                keepCall(made);
            }
            return super.visitNewClass(tree, none);
        }

        /** What stands at a field is done by the constructor of its class. */
        private void keepCall(Element called) {
            Element from = method;
            if (from == null) {
                TreePath owner = getCurrentPath();
                while (!(owner.getLeaf() instanceof ClassTree)) {
                    owner = owner.getParentPath();
                }
                from = ElementFilter.constructorsIn(trees.getElement(owner).getEnclosedElements()).get(0);
            }
            calls.computeIfAbsent(from, any -> new LinkedHashSet<>()).add(called);
        }

        @Override
        public Void visitNewArray(NewArrayTree tree, Void none) {
            rule(5, tree.getInitializers() == null || method != null, place(tree) + ": no array is a constant");
            rule(12, isMadeOnce(), place(tree) + ": rows are made in constructors alone");
            for (ExpressionTree length : tree.getDimensions()) {
                rule(7, isConstant(length), place(tree) + ": the length is a constant");
            }
            return super.visitNewArray(tree, none);
        }

        private boolean isMadeOnce() {
            return method == null || method.getKind() == ElementKind.CONSTRUCTOR;
        }

        /** Numbers, constants, and what is reckoned from them. */
        private boolean isConstant(ExpressionTree tree) {
            return !tree.toString().isEmpty() && tree.toString().matches("[A-Z0-9_ *+()-]+");
        }

        @Override
        public Void visitThrow(ThrowTree tree, Void none) {
            rule(6, method.getKind() != ElementKind.CONSTRUCTOR, place(tree) + ": no constructor throws");
            boolean fits = false;
            if (tree.getExpression() instanceof NewClassTree) {
                NewClassTree made = (NewClassTree) tree.getExpression();
                List<? extends ExpressionTree> texts = made.getArguments();
                fits = EXCEPTIONS.contains(made.getIdentifier().toString())
                        && (texts.isEmpty() || texts.size() == 1 && texts.get(0) instanceof LiteralTree);
            }
            rule(6, fits, place(tree) + ": throw new E() or throw new E(\"a written text\")");
            return super.visitThrow(tree, none);
        }

        @Override
        public Void visitTry(TryTree tree, Void none) {
            rule(6, false, place(tree) + ": the class catches nothing");
            return super.visitTry(tree, none);
        }

        @Override
        public Void visitSynchronized(SynchronizedTree tree, Void none) {
            rule(6, false, place(tree) + ": nothing is synchronized");
            return super.visitSynchronized(tree, none);
        }

        @Override
        public Void visitAssert(AssertTree tree, Void none) {
            rule(6, false, place(tree) + ": nothing is asserted");
            return super.visitAssert(tree, none);
        }

        @Override
        public Void visitLambdaExpression(LambdaExpressionTree tree, Void none) {
            rule(2, false, place(tree) + ": there is no lambda");
            return super.visitLambdaExpression(tree, none);
        }

        @Override
        public Void visitMemberReference(MemberReferenceTree tree, Void none) {
            rule(2, false, place(tree) + ": there is no method reference");
            return super.visitMemberReference(tree, none);
        }

        @Override
        public Void visitInstanceOf(InstanceOfTree tree, Void none) {
            rule(6, false, place(tree) + ": no object is of a kind that is asked for");
            return super.visitInstanceOf(tree, none);
        }

        @Override
        public Void visitTypeCast(TypeCastTree tree, Void none) {
            rule(7, PLAIN.contains(tree.getType().toString()), place(tree) + ": a cast to a number cannot throw");
            return super.visitTypeCast(tree, none);
        }

        @Override
        public Void visitBinary(BinaryTree tree, Void none) {
            String left = typeOf(tree.getLeftOperand()).toString();
            String right = typeOf(tree.getRightOperand()).toString();
            boolean texts = left.startsWith("java.") || right.startsWith("java.");
            rule(tree.getKind() == Tree.Kind.PLUS ? 10 : 6, !texts, place(tree) + ": no sign stands between texts");
            if (tree.getKind() == Tree.Kind.DIVIDE || tree.getKind() == Tree.Kind.REMAINDER) {
                rule(7, isLookedAt(tree.getRightOperand()), place(tree) + ": the divisor is looked at");
            }
            return super.visitBinary(tree, none);
        }

        @Override
        public Void visitCompoundAssignment(CompoundAssignmentTree tree, Void none) {
            boolean divides = tree.getKind() == Tree.Kind.DIVIDE_ASSIGNMENT
                    || tree.getKind() == Tree.Kind.REMAINDER_ASSIGNMENT;
            rule(7, !divides || isLookedAt(tree.getExpression()), place(tree) + ": the divisor is looked at");
            return super.visitCompoundAssignment(tree, none);
        }

        /** A constant, or compared with 0 ahead of it in the same method. */
        private boolean isLookedAt(ExpressionTree divisor) {
            return isConstant(divisor)
                    || Pattern.compile(Pattern.quote(divisor.toString()) + " (==|>) 0").matcher(methodTree.toString()).find();
        }

        @Override
        public Void visitForLoop(ForLoopTree tree, Void none) {
            rule(9, hasEnd(tree.getCondition(), tree.getUpdate()), place(tree) + ": the loop's end is seen");
            return super.visitForLoop(tree, none);
        }

        @Override
        public Void visitWhileLoop(WhileLoopTree tree, Void none) {
            rule(9, hasEnd(tree.getCondition(), stepsOf(tree.getStatement())), place(tree) + ": the loop's end is seen");
            return super.visitWhileLoop(tree, none);
        }

        @Override
        public Void visitDoWhileLoop(DoWhileLoopTree tree, Void none) {
            rule(9, hasEnd(tree.getCondition(), stepsOf(tree.getStatement())), place(tree) + ": the loop's end is seen");
            return super.visitDoWhileLoop(tree, none);
        }

        @Override
        public Void visitEnhancedForLoop(EnhancedForLoopTree tree, Void none) {
            rule(9, typeOf(tree.getExpression()).getKind() == TypeKind.ARRAY, place(tree) + ": it goes over an array");
            return super.visitEnhancedForLoop(tree, none);
        }

        /** What a loop's body does in each turn, whatever it tests. */
        private List<? extends Tree> stepsOf(StatementTree body) {
            return body instanceof BlockTree ? ((BlockTree) body).getStatements() : Arrays.asList(body);
        }

        /** A counter stands against a bound, joined to all else by && alone, and each turn moves it. */
        private boolean hasEnd(ExpressionTree condition, List<? extends Tree> steps) {
            if (condition instanceof ParenthesizedTree) {
                return hasEnd(((ParenthesizedTree) condition).getExpression(), steps);
            }
            if (!(condition instanceof BinaryTree)) {
                return false;
            }
            BinaryTree test = (BinaryTree) condition;
            if (test.getKind() == Tree.Kind.CONDITIONAL_AND) {
                return hasEnd(test.getLeftOperand(), steps) || hasEnd(test.getRightOperand(), steps);
            }
            boolean up = test.getKind() == Tree.Kind.LESS_THAN || test.getKind() == Tree.Kind.LESS_THAN_EQUAL;
            boolean down = test.getKind() == Tree.Kind.GREATER_THAN || test.getKind() == Tree.Kind.GREATER_THAN_EQUAL;
            String step = Pattern.quote(test.getLeftOperand().toString()) + (up ? "(\\+\\+| \\+= \\d+);?" : "(--| -= \\d+);?");
            return (up || down) && steps.stream().anyMatch(s -> s.toString().matches(step));
        }

        @Override
        public Void visitUnary(UnaryTree tree, Void none) {
            rule(4, PLAIN.contains(typeOf(tree.getExpression()).toString()), place(tree) + ": it is of a number");
            return super.visitUnary(tree, none);
        }

        // ---- who calls whom

        private void lookAtCalls() {
            Map<Element, Integer> known = new LinkedHashMap<>();
            int deepest = 0;
            for (Element from : calls.keySet()) {
                int deep = openFrom(from, known);
                rule(11, deep <= MOST_CALLS_OPEN, from + " has " + deep + " calls open at once");
                deepest = Math.max(deepest, deep);
            }
            rule(11, deepest > 1, "calls are seen");
            for (Element from : calls.keySet()) {
                boolean again = reaches(from, from);
                boolean isKnown = from.getSimpleName().toString().matches("readChain|readValue");
                rule(8, again == isKnown, from + " calls itself, or should");
                rule(8, !again || from.getModifiers().contains(Modifier.PRIVATE) && from.toString().endsWith("int)"),
                        from + " is private and carries its depth");
            }
        }

        private boolean reaches(Element from, Element to) {
            Set<Element> seen = new LinkedHashSet<>();
            collect(from, seen);
            return seen.contains(to);
        }

        private void collect(Element from, Set<Element> seen) {
            for (Element next : calls.getOrDefault(from, new LinkedHashSet<>())) {
                if (seen.add(next)) {
                    collect(next, seen);
                }
            }
        }

        /** Methods that call one another count as one. */
        private int openFrom(Element from, Map<Element, Integer> known) {
            if (known.containsKey(from)) {
                return known.get(from);
            }
            Set<Element> group = new LinkedHashSet<>();
            group.add(from);
            for (Element other : calls.keySet()) {
                if (reaches(from, other) && reaches(other, from)) {
                    group.add(other);
                }
            }
            int deepest = 0;
            for (Element member : group) {
                for (Element next : calls.getOrDefault(member, new LinkedHashSet<>())) {
                    if (!group.contains(next)) {
                        deepest = Math.max(deepest, openFrom(next, known));
                    }
                }
            }
            known.put(from, deepest + 1);
            return deepest + 1;
        }
    }
}
