import com.sun.source.tree.*;
import com.sun.source.util.JavacTask;
import com.sun.source.util.SourcePositions;
import com.sun.source.util.TreePathScanner;
import com.sun.source.util.Trees;
import java.io.File;
import java.io.IOException;
import java.util.HashMap;
import java.util.List;
import java.util.Map;
import java.util.Set;
import java.util.TreeMap;
import java.util.TreeSet;
import javax.lang.model.element.Element;
import javax.lang.model.element.ElementKind;
import javax.lang.model.element.Modifier;
import javax.lang.model.element.TypeElement;
import javax.lang.model.type.TypeKind;
import javax.lang.model.type.TypeMirror;
import javax.tools.JavaCompiler;
import javax.tools.StandardJavaFileManager;
import javax.tools.ToolProvider;

/**
 * The rules of LANGUAGE.md that can be read off the source, by the compiler's own tree of it. It asks for less than the
 * rules leave, wherever the class does with less: what is refused here may be looked up there and let in.
 */
public final class FormTest {
    private static final Check CHECK = new Check();
    private static final String SOURCE = "src/main/java/TableMerge.java";

    private static final Set<String> LIBRARY = Set.of(
            "java.lang.String.length", "java.lang.String.charAt", "java.lang.Integer.bitCount", "java.lang.Math.max",
            "java.lang.Math.min", "java.lang.Math.floorMod", "java.lang.System.arraycopy", "java.util.Arrays.fill");
    private static final Set<String> THROWN = Set.of("IllegalArgumentException", "NoSuchElementException");
    private static final Set<String> IMPORTS = Set.of("java.util.Arrays", "java.util.NoSuchElementException");

    private final Trees trees;
    private final CompilationUnitTree unit;
    private final Map<String, Set<String>> calls = new TreeMap<>();
    private final Map<String, Integer> depths = new HashMap<>();
    private int classes;

    private FormTest(JavacTask task, CompilationUnitTree unit) {
        trees = Trees.instance(task);
        this.unit = unit;
    }

    public static void main(String[] args) throws IOException {
        JavaCompiler compiler = ToolProvider.getSystemJavaCompiler();
        try (StandardJavaFileManager files = compiler.getStandardFileManager(null, null, null)) {
            JavacTask task = (JavacTask) compiler.getTask(null, files, null, List.of("-proc:none"), null,
                    files.getJavaFileObjects(new File(SOURCE)));
            CompilationUnitTree unit = task.parse().iterator().next();
            task.analyze();
            FormTest test = new FormTest(task, unit);
            test.new Scanner().scan(unit, null);
            test.endOfFile();
        }
        CHECK.end();
    }

    private void endOfFile() {
        CHECK.yes("rule 1: no package line", unit.getPackage() == null);
        for (ImportTree one : unit.getImports()) {
            CHECK.yes("rule 4: " + one, IMPORTS.contains(one.getQualifiedIdentifier().toString()));
        }
        CHECK.yes("rule 11: classes " + classes, classes <= 12);
        for (String method : calls.keySet()) {
            int depth = depthOf(method, new TreeSet<>());
            CHECK.yes("rule 11: " + method + " goes " + depth + " deep", depth <= 8);
        }
        CHECK.yes("methods that were looked at: " + calls.size(), calls.size() > 30);
    }

    /** The class does without recursion, so that a chain of calls has an end. */
    private int depthOf(String method, Set<String> open) {
        if (depths.containsKey(method)) {
            return depths.get(method);
        }
        CHECK.yes("rule 8: " + method + " calls itself", open.add(method));
        int deepest = 0;
        for (String called : calls.getOrDefault(method, Set.of())) {
            deepest = Math.max(deepest, open.contains(called) ? 100 : depthOf(called, open));
        }
        open.remove(method);
        depths.put(method, deepest + 1);
        return deepest + 1;
    }

    private final class Scanner extends TreePathScanner<Void, Void> {
        private String method = "";
        private int loops;

        private void rule(int number, Tree at, boolean kept) {
            SourcePositions places = trees.getSourcePositions();
            CHECK.yes("rule " + number + ", line " + unit.getLineMap().getLineNumber(places.getStartPosition(unit, at)) + ": "
                    + at.toString().lines().findFirst().orElse(""), kept);
        }

        private void never(int number, Tree at) {
            rule(number, at, false);
        }

        private long linesOf(Tree at) {
            SourcePositions places = trees.getSourcePositions();
            LineMap lines = unit.getLineMap();
            return lines.getLineNumber(places.getEndPosition(unit, at)) - lines.getLineNumber(places.getStartPosition(unit, at)) + 1;
        }

        @Override
        public Void visitClass(ClassTree at, Void none) {
            classes++;
            boolean outer = at.getSimpleName().contentEquals("TableMerge");
            Set<Modifier> flags = at.getModifiers().getFlags();
            rule(2, at, at.getKind() == Tree.Kind.CLASS && flags.contains(Modifier.FINAL)
                    && flags.contains(outer ? Modifier.PUBLIC : Modifier.STATIC) && method.isEmpty());
            int fields = 0;
            for (Tree member : at.getMembers()) {
                rule(5, member, member.getKind() != Tree.Kind.BLOCK);
                if (member instanceof VariableTree field) {
                    boolean constant = field.getModifiers().getFlags().contains(Modifier.STATIC);
                    rule(5, field, !constant || isConstant(field));
                    fields += constant ? 0 : 1;
                }
            }
            CHECK.yes("rule 11: fields of " + at.getSimpleName() + ": " + fields, fields <= 20);
            return super.visitClass(at, none);
        }

        private boolean isConstant(VariableTree field) {
            String type = field.getType().toString();
            return field.getModifiers().getFlags().contains(Modifier.FINAL)
                    && Set.of("int", "long", "boolean", "char", "String").contains(type);
        }

        @Override
        public Void visitMethod(MethodTree at, Void none) {
            method = nameOf(trees.getElement(getCurrentPath()));
            calls.putIfAbsent(method, new TreeSet<>());
            rule(11, at, linesOf(at) <= 60);
            rule(11, at, at.getParameters().size() <= 7);
            super.visitMethod(at, none);
            method = "";
            return null;
        }

        private String nameOf(Element called) {
            return ((TypeElement) called.getEnclosingElement()).getQualifiedName() + "." + called;
        }

        @Override
        public Void visitMethodInvocation(MethodInvocationTree at, Void none) {
            Element called = trees.getElement(getCurrentPath());
            String owner = ((TypeElement) called.getEnclosingElement()).getQualifiedName().toString();
            if (owner.startsWith("TableMerge")) {
                calls.get(method).add(nameOf(called));
            } else if (!at.getMethodSelect().toString().equals("super")) {
                rule(4, at, LIBRARY.contains(owner + "." + called.getSimpleName()));
            }
            return super.visitMethodInvocation(at, none);
        }

        @Override
        public Void visitNewClass(NewClassTree at, Void none) {
            rule(12, at, loops == 0 && at.getClassBody() == null);
            return super.visitNewClass(at, none);
        }

        @Override
        public Void visitNewArray(NewArrayTree at, Void none) {
            rule(12, at, loops == 0 && method.isEmpty() && at.getDimensions().size() == 1);
            return super.visitNewArray(at, none);
        }

        @Override
        public Void visitVariable(VariableTree at, Void none) {
            TypeMirror type = trees.getTypeMirror(getCurrentPath());
            String name = type == null ? "null" : type.toString().replace("[]", "");
            boolean own = name.startsWith("TableMerge");
            rule(3, at, own || Set.of("int", "byte", "char", "boolean", "long", "java.lang.String").contains(name));
            return super.visitVariable(at, none);
        }

        @Override
        public Void visitThrow(ThrowTree at, Void none) {
            boolean made = at.getExpression() instanceof NewClassTree thrown
                    && THROWN.contains(thrown.getIdentifier().toString())
                    && (thrown.getArguments().isEmpty() || thrown.getArguments().get(0).getKind() == Tree.Kind.STRING_LITERAL);
            rule(6, at, made && !method.contains(".TableMerge(") && !method.contains("<init>"));
            return super.visitThrow(at, none);
        }

        @Override
        public Void visitBinary(BinaryTree at, Void none) {
            rule(10, at, at.getKind() != Tree.Kind.PLUS || !isText(at.getLeftOperand()) && !isText(at.getRightOperand()));
            if (at.getKind() == Tree.Kind.DIVIDE || at.getKind() == Tree.Kind.REMAINDER) {
                rule(7, at, isNumberAboveZero(at.getRightOperand()));
            }
            return super.visitBinary(at, none);
        }

        private boolean isText(ExpressionTree part) {
            return part.getKind() == Tree.Kind.STRING_LITERAL;
        }

        /** A written number, or a constant (all of which are above 0, but for those that nothing is divided by). */
        private boolean isNumberAboveZero(ExpressionTree divisor) {
            if (divisor instanceof LiteralTree literal) {
                return literal.getValue() instanceof Integer number && number > 0;
            }
            return Set.of("KEYS", "COLUMNS", "SLOTS", "PARTS").contains(divisor.toString());
        }

        @Override
        public Void visitTypeCast(TypeCastTree at, Void none) {
            TypeKind kind = trees.getTypeMirror(new com.sun.source.util.TreePath(getCurrentPath(), at.getType())).getKind();
            rule(7, at, kind.isPrimitive());
            return super.visitTypeCast(at, none);
        }

        @Override
        public Void visitForLoop(ForLoopTree at, Void none) {
            rule(9, at, at.getCondition() != null && at.getCondition().getKind() != Tree.Kind.BOOLEAN_LITERAL);
            loops++;
            super.visitForLoop(at, none);
            loops--;
            return null;
        }

        @Override
        public Void visitWhileLoop(WhileLoopTree at, Void none) {
            String condition = at.getCondition().toString();
            rule(9, at, condition.contains("<"));
            loops++;
            super.visitWhileLoop(at, none);
            loops--;
            return null;
        }

        @Override
        public Void visitIdentifier(IdentifierTree at, Void none) {
            Element named = trees.getElement(getCurrentPath());
            boolean library = named != null && (named.getKind() == ElementKind.CLASS || named.getKind() == ElementKind.INTERFACE)
                    && !((TypeElement) named).getQualifiedName().toString().startsWith("TableMerge");
            rule(4, at, !library || THROWN.contains(at.toString())
                    || Set.of("Arrays", "Integer", "Math", "System", "String").contains(at.toString()));
            return super.visitIdentifier(at, none);
        }

        @Override
        public Void visitLambdaExpression(LambdaExpressionTree at, Void none) {
            never(2, at);
            return null;
        }

        @Override
        public Void visitMemberReference(MemberReferenceTree at, Void none) {
            never(2, at);
            return null;
        }

        @Override
        public Void visitTry(TryTree at, Void none) {
            never(6, at);
            return null;
        }

        @Override
        public Void visitSynchronized(SynchronizedTree at, Void none) {
            never(6, at);
            return null;
        }

        @Override
        public Void visitAssert(AssertTree at, Void none) {
            never(6, at);
            return null;
        }
    }
}
