import com.sun.source.tree.*;
import com.sun.source.util.*;
import java.io.File;
import java.lang.reflect.Constructor;
import java.lang.reflect.Field;
import java.lang.reflect.Method;
import java.lang.reflect.Modifier;
import java.nio.file.Files;
import java.util.*;
import javax.lang.model.element.Element;
import javax.lang.model.element.ElementKind;
import javax.lang.model.element.ExecutableElement;
import javax.lang.model.element.TypeElement;
import javax.lang.model.element.VariableElement;
import javax.tools.JavaCompiler;
import javax.tools.StandardJavaFileManager;
import javax.tools.ToolProvider;

/** The face of the class, and those rules of LANGUAGE.md that can be seen in its source. */
public final class LanguageTest {
    private static final String[] FACE = {
            "int point(int,int) IllegalArgumentException,IllegalStateException",
            "int go(int,int) IllegalArgumentException,IllegalStateException",
            "int back(int) IllegalArgumentException",
            "int begin()",
            "int turn(int) IllegalArgumentException,IllegalStateException",
            "int learn() IllegalStateException",
            "int read() IllegalArgumentException,IllegalStateException",
            "int forget(int) IndexOutOfBoundsException",
            "int set(int,int) IndexOutOfBoundsException,IllegalArgumentException,IllegalStateException",
            "int append(int) IllegalArgumentException,IllegalStateException",
            "int clearBuffer()",
            "int firstError()",
            "int undo() IllegalStateException",
            "int pointOf(int,int) IndexOutOfBoundsException,IllegalArgumentException",
            "int run(int,int) IllegalArgumentException",
            "int stroke(int) IllegalArgumentException",
            "int strokeOf(int,int) IndexOutOfBoundsException,IllegalArgumentException",
            "int distance(int,int) IndexOutOfBoundsException",
            "int reading(int) IllegalArgumentException",
            "int count(int) IllegalArgumentException",
            "int setting(int) IndexOutOfBoundsException",
            "int ifPoint(int,int) IllegalArgumentException",
            "int against()",
            "int mostForgiven()",
            "int straightness()",
            "double doubt()",
            "long digest()"};

    private static final Set<String> LIBRARY = Set.of("Math.max", "Math.min", "Math.abs", "Integer.signum");
    private static final Set<String> THROWN = Set.of("IllegalStateException", "IllegalArgumentException",
            "IndexOutOfBoundsException");
    private static final Set<Tree.Kind> RULED_OUT = EnumSet.of(Tree.Kind.LAMBDA_EXPRESSION, Tree.Kind.MEMBER_REFERENCE,
            Tree.Kind.SYNCHRONIZED, Tree.Kind.ASSERT, Tree.Kind.TRY, Tree.Kind.IMPORT, Tree.Kind.PACKAGE,
            Tree.Kind.ANNOTATION, Tree.Kind.TYPE_CAST, Tree.Kind.WHILE_LOOP, Tree.Kind.DO_WHILE_LOOP);
    private static final Set<String> NUMBERS = Set.of("int", "long");
    private static final int LONGEST_METHOD = 60;
    private static final int MOST_PARAMETERS = 7;
    private static final int DEEPEST = 8;
    private static final int MOST_CLASSES = 12;
    private static final int MOST_FIELDS = 20;

    private static final Due due = new Due("LanguageTest");

    public static void main(String[] args) throws Exception {
        face();
        if (args.length != 1) {
            throw new IllegalArgumentException("the source file is to be named");
        }
        source(new File(args[0]));
        due.end();
    }

    // ---- the face, by reflection

    private static void face() {
        Class<?> face = LatticeGestures.class;
        good("the class is public and final",
                Modifier.isPublic(face.getModifiers()) && Modifier.isFinal(face.getModifiers()));
        Set<String> names = new TreeSet<>();
        Set<String> found = new TreeSet<>();
        for (Method method : face.getDeclaredMethods()) {
            if (!Modifier.isPrivate(method.getModifiers())) {
                good(method + " is public and not static", method.getModifiers() == Modifier.PUBLIC);
                found.add(told(method));
                names.add(method.getName());
            }
        }
        good("the methods are those of the document: " + found, found.equals(new TreeSet<>(List.of(FACE))));
        for (Method method : face.getDeclaredMethods()) {
            good("private " + method.getName() + " bears the name of a public one",
                    !Modifier.isPrivate(method.getModifiers()) || !names.contains(method.getName()));
        }
        for (Field field : face.getDeclaredFields()) {
            boolean isNone = field.getName().equals("NONE") && field.getType() == int.class
                    && field.getModifiers() == (Modifier.PUBLIC | Modifier.STATIC | Modifier.FINAL);
            good(field.getName() + " is to be seen", Modifier.isPrivate(field.getModifiers()) || isNone);
        }
        Constructor<?>[] made = face.getDeclaredConstructors();
        good("one public constructor without arguments", made.length == 1 && made[0].getParameterCount() == 0
                && made[0].getModifiers() == Modifier.PUBLIC);
    }

    private static String told(Method method) {
        StringJoiner parameters = new StringJoiner(",", "(", ")");
        for (Class<?> type : method.getParameterTypes()) {
            parameters.add(type.getSimpleName());
        }
        StringJoiner thrown = new StringJoiner(",");
        for (Class<?> type : method.getExceptionTypes()) {
            thrown.add(type.getSimpleName());
        }
        return (method.getReturnType().getSimpleName() + " " + method.getName() + parameters + " " + thrown).trim();
    }

    // ---- the source, by the compiler's tree

    private static void source(File file) throws Exception {
        int strange = 0;
        for (byte sign : Files.readAllBytes(file.toPath())) {
            strange += sign > 0 ? 0 : 1;
        }
        due.is("signs beyond 1 to 127", strange, 0);
        JavaCompiler compiler = ToolProvider.getSystemJavaCompiler();
        try (StandardJavaFileManager files = compiler.getStandardFileManager(null, null, null)) {
            JavacTask task = (JavacTask) compiler.getTask(null, files, null, List.of("-proc:none"), null,
                    files.getJavaFileObjects(file));
            CompilationUnitTree unit = task.parse().iterator().next();
            task.analyze();
            Rules rules = new Rules(Trees.instance(task), unit);
            rules.scan(unit, null);
            good("at most " + MOST_CLASSES + " classes", rules.classes <= MOST_CLASSES);
            for (ExecutableElement method : rules.calls.keySet()) {
                int depth = depth(rules.calls, method, new ArrayDeque<>());
                good("calls of " + method + " go " + depth + " deep", depth <= DEEPEST);
            }
        }
    }

    private static int depth(Map<ExecutableElement, Set<ExecutableElement>> calls, ExecutableElement method,
            Deque<ExecutableElement> open) {
        if (open.contains(method)) {
            good(method + " calls itself", false);
            return 0;
        }
        open.push(method);
        int deepest = 0;
        for (ExecutableElement called : calls.getOrDefault(method, Set.of())) {
            deepest = Math.max(deepest, depth(calls, called, open));
        }
        open.pop();
        return deepest + 1;
    }

    private static void good(String what, boolean isGood) {
        due.is(what, isGood ? 1 : 0, 1);
    }

    private static final class Rules extends TreePathScanner<Void, Void> {
        private final Trees trees;
        private final CompilationUnitTree unit;
        private final Map<ExecutableElement, Set<ExecutableElement>> calls = new LinkedHashMap<>();
        private int classes;
        private ExecutableElement inside;
        private String insideText = "";

        Rules(Trees trees, CompilationUnitTree unit) {
            this.trees = trees;
            this.unit = unit;
        }

        @Override
        public Void scan(Tree tree, Void nothing) {
            if (tree != null && RULED_OUT.contains(tree.getKind())) {
                boolean isNumberCast = tree instanceof TypeCastTree cast && cast.getType() instanceof PrimitiveTypeTree;
                good(tree.getKind() + " in line " + line(tree), isNumberCast);
            }
            return super.scan(tree, nothing);
        }

        @Override
        public Void visitClass(ClassTree tree, Void nothing) {
            classes++;
            Set<javax.lang.model.element.Modifier> words = tree.getModifiers().getFlags();
            boolean isNested = getCurrentPath().getParentPath().getLeaf() instanceof ClassTree;
            good("class " + tree.getSimpleName() + " is static and not public", !isNested
                    || (words.contains(javax.lang.model.element.Modifier.STATIC)
                    && !words.contains(javax.lang.model.element.Modifier.PUBLIC)));
            int fields = 0;
            for (Tree member : tree.getMembers()) {
                if (member instanceof VariableTree field) {
                    Set<javax.lang.model.element.Modifier> flags = field.getModifiers().getFlags();
                    boolean isStatic = flags.contains(javax.lang.model.element.Modifier.STATIC);
                    good("static " + field.getName() + " is final",
                            !isStatic || flags.contains(javax.lang.model.element.Modifier.FINAL));
                    fields += isStatic ? 0 : 1;
                }
                good("a block of its own in " + tree.getSimpleName(), !(member instanceof BlockTree));
            }
            good("fields of " + tree.getSimpleName(), fields <= MOST_FIELDS);
            return super.visitClass(tree, nothing);
        }

        @Override
        public Void visitMethod(MethodTree tree, Void nothing) {
            ExecutableElement outer = inside;
            String outerText = insideText;
            inside = (ExecutableElement) trees.getElement(getCurrentPath());
            insideText = tree.toString();
            good(tree.getName() + " bears the name of a public method", isOfFace(inside) || !isInFace(tree.getName()));
            calls.computeIfAbsent(inside, key -> new LinkedHashSet<>());
            long lines = line(trees.getSourcePositions().getEndPosition(unit, tree)) - line(tree) + 1;
            good(tree.getName() + " has " + lines + " lines", lines <= LONGEST_METHOD);
            good("parameters of " + tree.getName(), tree.getParameters().size() <= MOST_PARAMETERS);
            super.visitMethod(tree, nothing);
            inside = outer;
            insideText = outerText;
            return null;
        }

        @Override
        public Void visitArrayAccess(ArrayAccessTree tree, Void nothing) {
            String length = tree.getExpression() + ".length";
            good("an index that is not compared with the length, in line " + line(tree),
                    insideText.contains(tree.getIndex() + " < " + length)
                            || insideText.contains(tree.getIndex() + " >= " + length));
            return super.visitArrayAccess(tree, nothing);
        }

        @Override
        public Void visitAssignment(AssignmentTree tree, Void nothing) {
            if (tree.getVariable() instanceof ArrayAccessTree cell) {
                Element array = trees.getElement(new TreePath(getCurrentPath(), cell.getExpression()));
                good("a change of a static array in line " + line(tree),
                        !array.getModifiers().contains(javax.lang.model.element.Modifier.STATIC));
            }
            return super.visitAssignment(tree, nothing);
        }

        @Override
        public Void visitBinary(BinaryTree tree, Void nothing) {
            boolean isNumber = trees.getTypeMirror(getCurrentPath()).getKind().isPrimitive();
            good("texts joined by + in line " + line(tree), isNumber);
            if (tree.getKind() == Tree.Kind.DIVIDE || tree.getKind() == Tree.Kind.REMAINDER) {
                good("a divisor that is not tested in line " + line(tree), isTested(tree.getRightOperand()));
            }
            return super.visitBinary(tree, nothing);
        }

        /** A divisor is a constant, or the method leaves ahead of it if it is not above 0. */
        private boolean isTested(ExpressionTree divisor) {
            ExpressionTree bare = divisor instanceof TypeCastTree cast ? cast.getExpression() : divisor;
            Element named = trees.getElement(new TreePath(getCurrentPath(), bare));
            boolean isConstant = named instanceof VariableElement constant && constant.getConstantValue() != null
                    && !constant.getConstantValue().equals(0);
            boolean isNumber = bare instanceof LiteralTree literal && !literal.getValue().equals(0);
            return isConstant || isNumber || insideText.contains("if (" + bare + " <= 0) {");
        }

        @Override
        public Void visitForLoop(ForLoopTree tree, Void nothing) {
            String condition = String.valueOf(tree.getCondition());
            good("a loop without a bound in line " + line(tree), condition.matches("\\w+ (<|<=|>|>=) .+"));
            return super.visitForLoop(tree, nothing);
        }

        @Override
        public Void visitMethodInvocation(MethodInvocationTree tree, Void nothing) {
            Element called = trees.getElement(new TreePath(getCurrentPath(), tree.getMethodSelect()));
            TypeElement owner = (TypeElement) called.getEnclosingElement();
            if (calledOfOwn(owner)) {
                calls.computeIfAbsent(inside, key -> new LinkedHashSet<>()).add((ExecutableElement) called);
            } else if (called.getKind() != ElementKind.CONSTRUCTOR) {
                String name = owner.getSimpleName() + "." + called.getSimpleName();
                good(name + " in line " + line(tree), LIBRARY.contains(name));
                for (VariableElement parameter : ((ExecutableElement) called).getParameters()) {
                    good(name + " of other numbers than int and long in line " + line(tree),
                            NUMBERS.contains(parameter.asType().toString()));
                }
            }
            return super.visitMethodInvocation(tree, nothing);
        }

        @Override
        public Void visitNewClass(NewClassTree tree, Void nothing) {
            String name = tree.getIdentifier().toString();
            boolean isThrown = getCurrentPath().getParentPath().getLeaf() instanceof ThrowTree;
            // The room that all calls share is kept by making rows in constructors alone.
            good("new " + name + " in line " + line(tree), isThrown ? THROWN.contains(name) : isInConstructor());
            good("no class without a name", tree.getClassBody() == null);
            Element made = trees.getElement(getCurrentPath());
            if (!isThrown && made instanceof ExecutableElement constructor && inside != null) {
                calls.computeIfAbsent(inside, key -> new LinkedHashSet<>()).add(constructor);
            }
            return super.visitNewClass(tree, nothing);
        }

        @Override
        public Void visitNewArray(NewArrayTree tree, Void nothing) {
            good("new array in line " + line(tree), inside == null || isInConstructor());
            return super.visitNewArray(tree, nothing);
        }

        @Override
        public Void visitThrow(ThrowTree tree, Void nothing) {
            good("throw in a constructor", !isInConstructor());
            good("throw of something old", tree.getExpression() instanceof NewClassTree);
            good("throw outside of the face in line " + line(tree),
                    inside.getModifiers().contains(javax.lang.model.element.Modifier.PUBLIC));
            return super.visitThrow(tree, nothing);
        }

        private static boolean isOfFace(ExecutableElement method) {
            return method.getModifiers().contains(javax.lang.model.element.Modifier.PUBLIC);
        }

        private static boolean isInFace(CharSequence name) {
            for (String told : FACE) {
                if (told.contains(" " + name + "(")) {
                    return true;
                }
            }
            return false;
        }

        private boolean calledOfOwn(TypeElement owner) {
            return trees.getPath(owner) != null;
        }

        private boolean isInConstructor() {
            return inside != null && inside.getKind() == ElementKind.CONSTRUCTOR;
        }

        private long line(Tree tree) {
            return line(trees.getSourcePositions().getStartPosition(unit, tree));
        }

        private long line(long position) {
            return unit.getLineMap().getLineNumber(Math.max(0, position));
        }
    }
}
