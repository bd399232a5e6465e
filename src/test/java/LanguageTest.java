import com.sun.source.tree.ArrayAccessTree;
import com.sun.source.tree.AssertTree;
import com.sun.source.tree.AssignmentTree;
import com.sun.source.tree.BinaryTree;
import com.sun.source.tree.ClassTree;
import com.sun.source.tree.CompilationUnitTree;
import com.sun.source.tree.CompoundAssignmentTree;
import com.sun.source.tree.DoWhileLoopTree;
import com.sun.source.tree.ForLoopTree;
import com.sun.source.tree.LambdaExpressionTree;
import com.sun.source.tree.LiteralTree;
import com.sun.source.tree.MemberReferenceTree;
import com.sun.source.tree.MemberSelectTree;
import com.sun.source.tree.MethodInvocationTree;
import com.sun.source.tree.MethodTree;
import com.sun.source.tree.NewArrayTree;
import com.sun.source.tree.NewClassTree;
import com.sun.source.tree.SynchronizedTree;
import com.sun.source.tree.ThrowTree;
import com.sun.source.tree.Tree;
import com.sun.source.tree.TryTree;
import com.sun.source.tree.TypeCastTree;
import com.sun.source.tree.VariableTree;
import com.sun.source.tree.WhileLoopTree;
import com.sun.source.util.JavacTask;
import com.sun.source.util.TreePathScanner;
import com.sun.source.util.Trees;
import java.io.File;
import java.util.Arrays;
import java.util.HashMap;
import java.util.HashSet;
import java.util.List;
import java.util.Map;
import java.util.Set;
import java.util.TreeSet;
import javax.lang.model.element.Element;
import javax.lang.model.element.Modifier;
import javax.tools.JavaCompiler;
import javax.tools.StandardJavaFileManager;
import javax.tools.ToolProvider;

/** The rules of ../shared/LANGUAGE.md that can be seen in the source itself. */
public final class LanguageTest {
    private static final Set<String> FACE = Set.of(
        "wind", "set", "load", "say", "wipe", "fault", "at", "judge", "pepper", "nearest", "field", "take", "stay", "likely", "mean",
        "fell", "forget", "starts", "ahead", "year", "image", "restore", "told");
    private static final Set<String> CONSTANTS = Set.of("UNKNOWN", "OUTSIDE", "STATE", "FULL", "NO", "NONE", "GONE");
    private static final Set<String> LIBRARY = Set.of("Math.min", "Math.max", "Math.abs", "Integer.bitCount");
    private static final Set<String> NUMBERS = Set.of("int", "long", "boolean", "void", "int[]");

    private static int wrong = 0;

    public static void main(String[] args) throws Exception {
        JavaCompiler compiler = ToolProvider.getSystemJavaCompiler();
        StandardJavaFileManager files = compiler.getStandardFileManager(null, null, null);
        JavacTask task = (JavacTask) compiler.getTask(null, files, null, List.of("-proc:none"), null,
            files.getJavaFileObjects(new File("src/main/java/SneezeRace.java")));
        for (CompilationUnitTree unit : task.parse()) {
            rule(1, unit.getPackageName() == null && unit.getTypeDecls().size() == 1, "one class without a package");
            rule(4, unit.getImports().isEmpty(), "no import");
            task.analyze();
            Rules rules = new Rules(unit, Trees.instance(task));
            rules.scan(unit, null);
            calls(rules.calls);
        }
        face();
        System.out.println(wrong == 0 ? "the source keeps to the rules" : wrong + " rules are broken");
        if (wrong != 0) {
            System.exit(1);
        }
    }

    private static void rule(int number, boolean kept, String told) {
        if (!kept) {
            wrong++;
            System.out.println("rule " + number + ": " + told);
        }
    }

    private static void face() {
        Set<String> methods = new TreeSet<>();
        for (java.lang.reflect.Method method : SneezeRace.class.getDeclaredMethods()) {
            int modifiers = method.getModifiers();
            if (java.lang.reflect.Modifier.isPrivate(modifiers)) {
                rule(1, !FACE.contains(method.getName()), "a private method bears the name " + method.getName());
            } else {
                rule(1, java.lang.reflect.Modifier.isPublic(modifiers), method.getName() + " is neither public nor private");
                rule(1, methods.add(method.getName()), method.getName() + " is there twice");
            }
        }
        rule(1, methods.equals(new TreeSet<>(FACE)), "the face has " + methods);
        for (java.lang.reflect.Field field : SneezeRace.class.getDeclaredFields()) {
            boolean open = !java.lang.reflect.Modifier.isPrivate(field.getModifiers());
            rule(1, open == CONSTANTS.contains(field.getName()), "the field " + field.getName());
        }
        rule(1, SneezeRace.class.getDeclaredConstructors().length == 1, "one constructor");
        rule(1, java.lang.reflect.Modifier.isFinal(SneezeRace.class.getModifiers()), "the class is final");
    }

    /** Only seek and ways call themselves; all other calls go at most eight deep. */
    private static void calls(Map<Element, Set<Element>> calls) {
        for (Map.Entry<Element, Set<Element>> entry : calls.entrySet()) {
            Element caller = entry.getKey();
            boolean itself = entry.getValue().remove(caller);
            boolean named = List.of("seek", "ways").contains(caller.getSimpleName().toString());
            rule(8, itself == named, caller + " calls itself: " + itself);
        }
        for (Element caller : calls.keySet()) {
            rule(11, depth(caller, calls, 0) <= 8, caller + " calls more than eight deep");
        }
    }

    private static int depth(Element caller, Map<Element, Set<Element>> calls, int above) {
        int deepest = above + 1;
        for (Element called : calls.getOrDefault(caller, Set.of())) {
            deepest = Math.max(deepest, above > 20 ? above : depth(called, calls, above + 1));
        }
        return deepest;
    }

    private static final class Rules extends TreePathScanner<Void, Void> {
        private final CompilationUnitTree unit;
        private final Trees trees;
        private final Map<Element, Set<Element>> calls = new HashMap<>();
        private final Set<String> own = new TreeSet<>();
        private int classes = 0;
        private String method = "";
        private Element caller;

        Rules(CompilationUnitTree unit, Trees trees) {
            this.unit = unit;
            this.trees = trees;
            ClassTree face = (ClassTree) unit.getTypeDecls().get(0);
            for (Tree member : face.getMembers()) {
                if (member instanceof ClassTree) {
                    own.add(((ClassTree) member).getSimpleName().toString());
                }
            }
        }

        private long line(Tree tree) {
            return unit.getLineMap().getLineNumber(trees.getSourcePositions().getStartPosition(unit, tree));
        }

        private void never(int number, Tree tree, String told) {
            rule(number, false, told + ", line " + line(tree));
        }

        @Override
        public Void visitClass(ClassTree tree, Void nothing) {
            classes++;
            rule(11, classes <= 12, "at most twelve classes");
            Set<Modifier> modifiers = tree.getModifiers().getFlags();
            boolean inside = !tree.getSimpleName().contentEquals("SneezeRace");
            rule(2, !inside || modifiers.contains(Modifier.PRIVATE) && modifiers.contains(Modifier.STATIC), "class " + tree.getSimpleName());
            long fields = tree.getMembers().stream().filter(member -> member instanceof VariableTree
                && !((VariableTree) member).getModifiers().getFlags().contains(Modifier.STATIC)).count();
            rule(11, fields <= 20, tree.getSimpleName() + " has " + fields + " fields");
            for (Tree member : tree.getMembers()) {
                if (member instanceof VariableTree) {
                    Set<Modifier> flags = ((VariableTree) member).getModifiers().getFlags();
                    rule(5, !flags.contains(Modifier.STATIC) || flags.contains(Modifier.FINAL), "static fields are final: " + member);
                }
                rule(5, member.getKind() != Tree.Kind.BLOCK, "no initialiser block");
            }
            return super.visitClass(tree, nothing);
        }

        @Override
        public Void visitMethod(MethodTree tree, Void nothing) {
            String before = method;
            method = tree.getName().toString();
            caller = trees.getElement(getCurrentPath());
            if (tree.getReturnType() != null) {
                type(tree.getReturnType());
            }
            rule(11, tree.getParameters().size() <= 7, method + " takes more than seven parameters");
            long end = unit.getLineMap().getLineNumber(trees.getSourcePositions().getEndPosition(unit, tree));
            rule(11, end - line(tree) < 60, method + " is longer than sixty lines");
            boolean open = tree.getModifiers().getFlags().contains(Modifier.PUBLIC);
            rule(1, open || !FACE.contains(method), "a method inside bears the name " + method);
            super.visitMethod(tree, nothing);
            method = before;
            return null;
        }

        private void type(Tree tree) {
            rule(3, NUMBERS.contains(tree.toString()) || own.contains(tree.toString()), "the type " + tree + ", line " + line(tree));
        }

        @Override
        public Void visitVariable(VariableTree tree, Void nothing) {
            type(tree.getType());
            return super.visitVariable(tree, nothing);
        }

        @Override
        public Void visitMethodInvocation(MethodInvocationTree tree, Void nothing) {
            Element called = trees.getElement(getCurrentPath());
            calls.computeIfAbsent(caller, none -> new HashSet<>()).add(called);
            String name = called.getSimpleName().toString();
            for (int i = 0; i < tree.getArguments().size(); i++) {
                boolean changed = name.equals("put") && i == 0 || name.equals("copy") && i == 1;
                rule(5, !changed || !isConstant(tree.getArguments().get(i)), "a row of the class is changed, line " + line(tree));
            }
            return super.visitMethodInvocation(tree, nothing);
        }

        private static boolean isConstant(Tree tree) {
            return tree.toString().matches("[A-Z][A-Z_]*");
        }

        @Override
        public Void visitAssignment(AssignmentTree tree, Void nothing) {
            boolean cell = tree.getVariable() instanceof ArrayAccessTree;
            rule(5, !cell || !isConstant(((ArrayAccessTree) tree.getVariable()).getExpression()), "a row of the class is changed: " + tree);
            return super.visitAssignment(tree, nothing);
        }

        /** Divisors are numbers told there, or tested in the very method. */
        @Override
        public Void visitBinary(BinaryTree tree, Void nothing) {
            boolean divides = tree.getKind() == Tree.Kind.DIVIDE || tree.getKind() == Tree.Kind.REMAINDER;
            boolean known = tree.getRightOperand() instanceof LiteralTree
                || List.of("height step", "commonDivisor less", "inLowestTerms divisor").contains(method + " " + tree.getRightOperand());
            rule(7, !divides || known, "a divisor that is not tested, line " + line(tree));
            return super.visitBinary(tree, nothing);
        }

        @Override
        public Void visitCompoundAssignment(CompoundAssignmentTree tree, Void nothing) {
            boolean divides = tree.getKind() == Tree.Kind.DIVIDE_ASSIGNMENT || tree.getKind() == Tree.Kind.REMAINDER_ASSIGNMENT;
            rule(7, !divides, "a divisor that is not tested, line " + line(tree));
            return super.visitCompoundAssignment(tree, nothing);
        }

        /** A counter steps by one towards a bound. */
        @Override
        public Void visitForLoop(ForLoopTree tree, Void nothing) {
            boolean steps = tree.getUpdate().size() == 1 && tree.getUpdate().get(0).toString().matches("\\w+(\\+\\+|--);");
            boolean bound = tree.getCondition() != null && tree.getCondition().toString().matches(".*[<>].*");
            rule(9, steps && bound, "a loop whose end is not seen, line " + line(tree));
            return super.visitForLoop(tree, nothing);
        }

        @Override
        public Void visitWhileLoop(WhileLoopTree tree, Void nothing) {
            rule(9, tree.getCondition().toString().startsWith("(more < MOST_PEPPER && "), "a loop whose end is not seen, line " + line(tree));
            return super.visitWhileLoop(tree, nothing);
        }

        @Override
        public Void visitDoWhileLoop(DoWhileLoopTree tree, Void nothing) {
            never(9, tree, "a loop whose end is not seen");
            return null;
        }

        @Override
        public Void visitNewClass(NewClassTree tree, Void nothing) {
            rule(12, method.equals("<init>"), "an object is made outside constructors, line " + line(tree));
            return super.visitNewClass(tree, nothing);
        }

        @Override
        public Void visitNewArray(NewArrayTree tree, Void nothing) {
            rule(12, method.equals("<init>") || method.isEmpty(), "a row is made outside constructors, line " + line(tree));
            return super.visitNewArray(tree, nothing);
        }

        /** Indices stand where the very method tests them: in the helpers for rows, and in loops up to a row's length. */
        @Override
        public Void visitArrayAccess(ArrayAccessTree tree, Void nothing) {
            boolean known = Arrays.asList("<init>", "cell", "put", "copy", "draw", "line").contains(method);
            rule(7, known, "an index outside the helpers for rows, line " + line(tree));
            return super.visitArrayAccess(tree, nothing);
        }

        @Override
        public Void visitMemberSelect(MemberSelectTree tree, Void nothing) {
            String told = tree.toString();
            boolean library = told.startsWith("Math.") || told.startsWith("Integer.") || told.startsWith("Long.")
                || told.startsWith("System.") || told.startsWith("java");
            rule(4, !library || LIBRARY.contains(told), told + " of the library, line " + line(tree));
            return super.visitMemberSelect(tree, nothing);
        }

        @Override
        public Void visitLiteral(LiteralTree tree, Void nothing) {
            rule(3, !(tree.getValue() instanceof String), "no text is needed, line " + line(tree));
            return super.visitLiteral(tree, nothing);
        }

        @Override
        public Void visitTypeCast(TypeCastTree tree, Void nothing) {
            never(6, tree, "no cast is needed");
            return null;
        }

        @Override
        public Void visitTry(TryTree tree, Void nothing) {
            never(6, tree, "no try is needed");
            return null;
        }

        @Override
        public Void visitThrow(ThrowTree tree, Void nothing) {
            never(6, tree, "the document names no exception");
            return null;
        }

        @Override
        public Void visitLambdaExpression(LambdaExpressionTree tree, Void nothing) {
            never(2, tree, "no lambda");
            return null;
        }

        @Override
        public Void visitMemberReference(MemberReferenceTree tree, Void nothing) {
            never(2, tree, "no method reference");
            return null;
        }

        @Override
        public Void visitSynchronized(SynchronizedTree tree, Void nothing) {
            never(6, tree, "no synchronized");
            return null;
        }

        @Override
        public Void visitAssert(AssertTree tree, Void nothing) {
            never(6, tree, "no assert");
            return null;
        }
    }
}
