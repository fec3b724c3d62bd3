import com.sun.source.tree.AssertTree;
import com.sun.source.tree.BinaryTree;
import com.sun.source.tree.BlockTree;
import com.sun.source.tree.ClassTree;
import com.sun.source.tree.CompilationUnitTree;
import com.sun.source.tree.CompoundAssignmentTree;
import com.sun.source.tree.LambdaExpressionTree;
import com.sun.source.tree.MemberReferenceTree;
import com.sun.source.tree.MethodInvocationTree;
import com.sun.source.tree.MethodTree;
import com.sun.source.tree.NewClassTree;
import com.sun.source.tree.SynchronizedTree;
import com.sun.source.tree.ThrowTree;
import com.sun.source.tree.Tree;
import com.sun.source.tree.TryTree;
import com.sun.source.tree.VariableTree;
import com.sun.source.util.JavacTask;
import com.sun.source.util.TreePathScanner;
import com.sun.source.util.Trees;
import java.lang.reflect.Constructor;
import java.lang.reflect.Field;
import java.lang.reflect.Method;
import java.lang.reflect.Modifier;
import java.nio.file.Path;
import java.util.Arrays;
import java.util.HashMap;
import java.util.LinkedHashSet;
import java.util.List;
import java.util.Map;
import java.util.Set;
import java.util.TreeSet;
import java.util.stream.Collectors;
import javax.lang.model.element.Element;
import javax.lang.model.element.ElementKind;
import javax.tools.ToolProvider;

/** The public face as the document has it, and the rules of LANGUAGE.md that can be seen from the source. */
public final class LanguageTest {
    private static final String INDEX = "IndexOutOfBoundsException";
    private static final String ARGUMENT = "IllegalArgumentException";
    private static final String STATE = "IllegalStateException";
    private static final Set<String> FACE = Set.of(
            "int append(int, int, int, int, int) " + STATE, "int load() ", "int read() ", "int errorPosition() ",
            "int count(int) " + ARGUMENT, "int moon(int, int) " + INDEX + " " + ARGUMENT,
            "int sight(int, int) " + INDEX + " " + ARGUMENT, "int sine(int) ", "int light(int) " + ARGUMENT,
            "int place(int, int, int) " + INDEX + " " + ARGUMENT, "long far(int, int) " + INDEX + " " + ARGUMENT,
            "int state(int, int) " + INDEX + " " + ARGUMENT, "boolean casts(int, int) " + INDEX + " " + ARGUMENT,
            "int shadedBy(int, int) " + INDEX + " " + ARGUMENT, "int whyLit(int, int) " + INDEX + " " + ARGUMENT,
            "int meeting(int, int, int) " + INDEX + " " + ARGUMENT,
            "int ticks(int, int, int, int) " + INDEX + " " + ARGUMENT, "int darkest(int, int) " + ARGUMENT,
            "int next(int, int, int) " + INDEX + " " + ARGUMENT, "int events(int, int) " + ARGUMENT,
            "int event(int, int, int, int) " + ARGUMENT + " " + INDEX,
            "double meanDark(int, int, int) " + INDEX + " " + ARGUMENT, "int worst() ",
            "int burden(int, int) " + INDEX + " " + ARGUMENT, "int bestShift(int) " + INDEX,
            "int see(int, int, int) " + INDEX + " " + ARGUMENT, "int forget(int) " + INDEX,
            "int setMoon(int, int, int) " + INDEX + " " + ARGUMENT, "int setLight(int, int) " + ARGUMENT,
            "int shift(int) " + INDEX, "int undo() " + STATE, "void save(int) " + INDEX,
            "int restore(int) " + INDEX + " " + STATE, "int writeTable(int, int) " + ARGUMENT,
            "int writtenByte(int) " + INDEX);
    private static final Map<String, Integer> CONSTANTS = Map.of("NONE", -1, "LOST", -1000000, "SYNTAX_ERROR", -2,
            "VALUE_ERROR", -3, "UNKNOWN", -4, "TWICE", -5, "MISFIT", -6, "TOO_MANY", -7);
    private static final Set<String> LIBRARY = Set.of("java.lang.Object", "java.lang.String", "java.lang.Math",
            "java.lang.IllegalStateException", "java.lang.IllegalArgumentException", "java.lang.IndexOutOfBoundsException");
    private static final int DEEPEST = 8;
    private static final int LONGEST = 60;
    private static final int MOST_PARAMETERS = 7;
    private static final int MOST_FIELDS = 20;
    private static final int MOST_CLASSES = 12;

    public static void main(String[] args) throws Exception {
        face();
        constants();
        inside();
        source(args.length > 0 ? args[0] : "src/main/java/WanderingMoons.java");
        Check.end();
    }

    private static void face() {
        Class<?> type = WanderingMoons.class;
        Check.same("rule 1: the class", Modifier.toString(type.getModifiers()), "public final");
        Constructor<?>[] made = type.getDeclaredConstructors();
        Check.same("rule 1: constructors", made.length + " " + made[0].toString(), "1 public WanderingMoons()");
        Set<String> open = new TreeSet<>();
        for (Method m : type.getDeclaredMethods()) {
            if (!Modifier.isPrivate(m.getModifiers()) && !m.isSynthetic()) {
                Check.same("rule 1: " + m.getName(), Modifier.toString(m.getModifiers()), "public");
                open.add(m.getReturnType() + " " + m.getName() + types(m.getParameterTypes(), ", ", "(", ") ")
                        + types(m.getExceptionTypes(), " ", "", ""));
            }
        }
        Check.same("rule 1: the methods", open, new TreeSet<>(FACE));
    }

    private static String types(Class<?>[] types, String between, String ahead, String behind) {
        return Arrays.stream(types).map(Class::getSimpleName).collect(Collectors.joining(between, ahead, behind));
    }

    private static void constants() throws IllegalAccessException {
        int open = 0;
        for (Field f : WanderingMoons.class.getDeclaredFields()) {
            if (!Modifier.isPrivate(f.getModifiers())) {
                open++;
                Check.same("rule 1: " + f.getName(), Modifier.toString(f.getModifiers()), "public static final");
                Check.same("constant " + f.getName(), f.get(null), CONSTANTS.get(f.getName()));
            }
        }
        Check.same("rule 1: constants", open, CONSTANTS.size());
    }

    private static void inside() {
        Set<String> names = Arrays.stream(WanderingMoons.class.getDeclaredMethods())
                .filter(m -> Modifier.isPublic(m.getModifiers())).map(Method::getName).collect(Collectors.toSet());
        Class<?>[] types = WanderingMoons.class.getDeclaredClasses();
        Check.same("rule 11: classes", types.length < MOST_CLASSES, true);
        for (Method m : WanderingMoons.class.getDeclaredMethods()) {
            Check.same("rule 1: name of " + m, Modifier.isPrivate(m.getModifiers()) && names.contains(m.getName()), false);
        }
        for (Class<?> type : types) {
            Check.same("rule 1: " + type, Modifier.isStatic(type.getModifiers()) && !Modifier.isPublic(type.getModifiers()), true);
            for (Method m : type.getDeclaredMethods()) {
                Check.same("rule 1: name of " + m, names.contains(m.getName()), false);
            }
            long fields = Arrays.stream(type.getDeclaredFields()).filter(f -> !Modifier.isStatic(f.getModifiers())).count();
            Check.same("rule 11: fields of " + type, fields <= MOST_FIELDS, true);
        }
    }

    private static void source(String file) throws java.io.IOException {
        var compiler = ToolProvider.getSystemJavaCompiler();
        try (var files = compiler.getStandardFileManager(null, null, null)) {
            var task = (JavacTask) compiler.getTask(null, files, null, List.of("-proc:none"), null,
                    files.getJavaFileObjects(Path.of(file)));
            Iterable<? extends CompilationUnitTree> units = task.parse();
            task.analyze();
            for (CompilationUnitTree unit : units) {
                Check.same("rule 4: imports", unit.getImports().isEmpty(), true);
                Check.same("no package", unit.getPackage() == null, true);
                Rules rules = new Rules(unit, Trees.instance(task));
                rules.scan(unit, null);
                rules.depths();
            }
        }
    }

    private static final class Rules extends TreePathScanner<Void, Void> {
        private final CompilationUnitTree unit;
        private final Trees trees;
        private final Map<Element, Set<Element>> calls = new HashMap<>();
        private Element method;
        private boolean inConstructor;

        Rules(CompilationUnitTree unit, Trees trees) {
            this.unit = unit;
            this.trees = trees;
        }

        private long line(long position) {
            return unit.getLineMap().getLineNumber(position);
        }

        private long start(Tree tree) {
            return line(trees.getSourcePositions().getStartPosition(unit, tree));
        }

        private void banned(Tree tree, String what) {
            Check.same("line " + start(tree) + ": " + what, "there", "not there");
        }

        @Override
        public Void visitMethod(MethodTree tree, Void none) {
            Element outer = method;
            method = trees.getElement(getCurrentPath());
            inConstructor = tree.getReturnType() == null;
            calls.putIfAbsent(method, new LinkedHashSet<>());
            long end = line(trees.getSourcePositions().getEndPosition(unit, tree));
            Check.same("rule 11: length of " + method, end - start(tree) < LONGEST, true);
            Check.same("rule 11: parameters of " + method, tree.getParameters().size() <= MOST_PARAMETERS, true);
            super.visitMethod(tree, none);
            method = outer;
            inConstructor = false;
            return null;
        }

        @Override
        public Void visitMethodInvocation(MethodInvocationTree tree, Void none) {
            Element called = trees.getElement(new com.sun.source.util.TreePath(getCurrentPath(), tree.getMethodSelect()));
            if (called != null && method != null && called.getKind() == ElementKind.METHOD) {
                calls.get(method).add(called);
                String owner = called.getEnclosingElement().toString();
                Check.same("rule 4: " + owner + "." + called,
                        owner.startsWith("WanderingMoons") || LIBRARY.contains(owner), true);
            }
            return super.visitMethodInvocation(tree, none);
        }

        @Override
        public Void visitNewClass(NewClassTree tree, Void none) {
            String made = trees.getTypeMirror(getCurrentPath()).toString();
            Check.same("rule 4: new " + made, made.startsWith("WanderingMoons") || LIBRARY.contains(made), true);
            return super.visitNewClass(tree, none);
        }

        @Override
        public Void visitBinary(BinaryTree tree, Void none) {
            if (tree.getKind() == Tree.Kind.PLUS && trees.getTypeMirror(getCurrentPath()).toString().equals("java.lang.String")) {
                banned(tree, "rule 10: + of texts");
            }
            return super.visitBinary(tree, none);
        }

        @Override
        public Void visitCompoundAssignment(CompoundAssignmentTree tree, Void none) {
            if (trees.getTypeMirror(getCurrentPath()).toString().equals("java.lang.String")) {
                banned(tree, "rule 10: += of texts");
            }
            return super.visitCompoundAssignment(tree, none);
        }

        @Override
        public Void visitVariable(VariableTree tree, Void none) {
            var modifiers = tree.getModifiers().getFlags();
            if (modifiers.contains(javax.lang.model.element.Modifier.STATIC)
                    && !modifiers.contains(javax.lang.model.element.Modifier.FINAL)) {
                banned(tree, "rule 5: static and not final");
            }
            return super.visitVariable(tree, none);
        }

        @Override
        public Void visitClass(ClassTree tree, Void none) {
            for (Tree member : tree.getMembers()) {
                if (member instanceof BlockTree block && block.isStatic()) {
                    banned(member, "rule 5: static block");
                }
            }
            return super.visitClass(tree, none);
        }

        @Override
        public Void visitThrow(ThrowTree tree, Void none) {
            if (inConstructor) {
                banned(tree, "rule 6: throw in a constructor");
            }
            return super.visitThrow(tree, none);
        }

        @Override
        public Void visitTry(TryTree tree, Void none) {
            if (tree.getFinallyBlock() != null || !tree.getResources().isEmpty()) {
                banned(tree, "rule 6: finally or resources");
            }
            return super.visitTry(tree, none);
        }

        @Override
        public Void visitLambdaExpression(LambdaExpressionTree tree, Void none) {
            banned(tree, "rule 2: lambda");
            return super.visitLambdaExpression(tree, none);
        }

        @Override
        public Void visitMemberReference(MemberReferenceTree tree, Void none) {
            banned(tree, "rule 2: method reference");
            return super.visitMemberReference(tree, none);
        }

        @Override
        public Void visitSynchronized(SynchronizedTree tree, Void none) {
            banned(tree, "rule 6: synchronized");
            return super.visitSynchronized(tree, none);
        }

        @Override
        public Void visitAssert(AssertTree tree, Void none) {
            banned(tree, "rule 6: assert");
            return super.visitAssert(tree, none);
        }

        void depths() {
            for (Element one : calls.keySet()) {
                int depth = depth(one, 0);
                Check.same("rule 11: how deep the calls of " + one + " go, " + depth, depth <= DEEPEST, true);
            }
        }

        /** The library's own calls count too; recursion would show as a depth beyond all limits. */
        private int depth(Element one, int open) {
            int deepest = 0;
            if (open <= 2 * DEEPEST) {
                for (Element called : calls.getOrDefault(one, Set.of())) {
                    deepest = Math.max(deepest, depth(called, open + 1));
                }
            }
            return deepest + 1;
        }
    }
}
