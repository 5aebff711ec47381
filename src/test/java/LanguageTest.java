import com.sun.source.tree.AssertTree;
import com.sun.source.tree.ClassTree;
import com.sun.source.tree.CompilationUnitTree;
import com.sun.source.tree.ImportTree;
import com.sun.source.tree.LambdaExpressionTree;
import com.sun.source.tree.MemberReferenceTree;
import com.sun.source.tree.MemberSelectTree;
import com.sun.source.tree.MethodTree;
import com.sun.source.tree.SynchronizedTree;
import com.sun.source.tree.ThrowTree;
import com.sun.source.tree.Tree;
import com.sun.source.tree.TryTree;
import com.sun.source.tree.VariableTree;
import com.sun.source.util.JavacTask;
import com.sun.source.util.SourcePositions;
import com.sun.source.util.TreeScanner;
import com.sun.source.util.Trees;
import java.io.File;
import java.lang.reflect.Constructor;
import java.lang.reflect.Field;
import java.lang.reflect.Method;
import java.lang.reflect.Modifier;
import java.util.Arrays;
import java.util.List;
import java.util.Set;
import java.util.TreeSet;
import java.util.stream.Collectors;
import javax.tools.JavaCompiler;
import javax.tools.StandardJavaFileManager;
import javax.tools.ToolProvider;

/** The face of the class, and those rules of ../shared/LANGUAGE.md that can be seen in the source. */
public final class LanguageTest {
    private static final String SOURCE = "src/main/java/FreeParts.java";

    private static final String[] FACE = {
        "int sheet(int,int,int)", "long set(int,int,long)", "int copy(int,int,int,int,int)", "int drop(int)",
        "int part(int,int,int,int)", "int nth(int,int,int)", "int both(int,int,int,int)", "int turn(int,int,int)",
        "int clear(int)", "int kind(int)", "int is(int,int)", "int as(int,int)", "int ask(int,int)", "int trace(int)",
        "int block(int,int)", "int told(int,int)", "int finer(int,int)", "int handles(int)",
        "int series(int,int,int,int,int)", "long number(int,int,int)", "int join(int,int,int,int)",
        "int change(int,int,int,int)", "long hankel(int,int)", "int same(int,int)", "long genus(int,int)",
        "long mean(int,int)", "long walks(int,int)", "int count(int)", "int status()"};

    private static final Set<String> LIBRARY = Set.of("Arrays.fill", "Arrays.copyOf", "Arrays.copyOfRange", "System.arraycopy");
    private static final Set<String> TYPES = Set.of("int", "long", "short", "byte", "char", "boolean", "double", "float", "String",
        "StringBuilder", "Integer");

    private static int wrong = 0;

    private static void rule(int number, boolean holds, String what) {
        if (!holds) {
            wrong++;
            System.out.println("rule " + number + ": " + what);
        }
    }

    public static void main(String[] args) throws Exception {
        face();
        source();
        System.out.println(wrong == 0 ? "the rules hold" : wrong + " breaches of the rules");
        if (wrong != 0) {
            System.exit(1);
        }
    }

    private static void face() {
        Class<?> c = FreeParts.class;
        rule(1, Modifier.isPublic(c.getModifiers()) && Modifier.isFinal(c.getModifiers()), "the class is public and final");
        Set<String> want = new TreeSet<>(Arrays.asList(FACE));
        Set<String> got = new TreeSet<>();
        for (Method m : c.getDeclaredMethods()) {
            if (Modifier.isPrivate(m.getModifiers())) {
                continue;
            }
            rule(1, Modifier.isPublic(m.getModifiers()) && !Modifier.isStatic(m.getModifiers()), m + " is not of the face");
            String parameters = Arrays.stream(m.getParameterTypes()).map(Class::getName).collect(Collectors.joining(","));
            got.add(m.getReturnType().getName() + " " + m.getName() + "(" + parameters + ")");
        }
        rule(1, got.equals(want), "the methods are " + got);
        Constructor<?>[] constructors = c.getDeclaredConstructors();
        rule(1, constructors.length == 1 && Modifier.isPublic(constructors[0].getModifiers())
            && Arrays.equals(constructors[0].getParameterTypes(), new Class<?>[] {int.class}), "the constructor");
        Set<String> open = new TreeSet<>();
        for (Field f : c.getDeclaredFields()) {
            if (!Modifier.isPrivate(f.getModifiers())) {
                open.add(f.getName());
            }
        }
        rule(1, open.equals(new TreeSet<>(List.of("NONE", "BAD", "STATE"))), "the fields of the face are " + open);
        rule(1, FreeParts.NONE == -1000000 && FreeParts.BAD == -1000001 && FreeParts.STATE == -1000002, "the constants");
        for (Class<?> inner : c.getDeclaredClasses()) {
            int m = inner.getModifiers();
            rule(2, Modifier.isStatic(m) && !Modifier.isPublic(m) && !Modifier.isProtected(m), inner + " is static, not public");
        }
    }

    private static void source() throws Exception {
        JavaCompiler compiler = ToolProvider.getSystemJavaCompiler();
        try (StandardJavaFileManager files = compiler.getStandardFileManager(null, null, null)) {
            JavacTask task = (JavacTask) compiler.getTask(null, files, null, null, null,
                files.getJavaFileObjects(new File(SOURCE)));
            for (CompilationUnitTree unit : task.parse()) {
                rule(1, unit.getPackageName() == null, "no package");
                for (ImportTree i : unit.getImports()) {
                    String name = i.getQualifiedIdentifier().toString();
                    rule(4, Set.of("java.util.Arrays", "java.util.ArrayList", "java.util.List").contains(name), "import " + name);
                }
                OwnClasses own = new OwnClasses();
                own.scan(unit, null);
                new Rules(unit, Trees.instance(task).getSourcePositions(), own.names).scan(unit, null);
            }
        }
    }

    private static final class OwnClasses extends TreeScanner<Void, Void> {
        final Set<String> names = new TreeSet<>();

        @Override
        public Void visitClass(ClassTree tree, Void none) {
            names.add(tree.getSimpleName().toString());
            return super.visitClass(tree, none);
        }
    }

    private static final class Rules extends TreeScanner<Void, Void> {
        private final CompilationUnitTree unit;
        private final SourcePositions positions;
        private final Set<String> own;
        private int classes = 0;

        Rules(CompilationUnitTree unit, SourcePositions positions, Set<String> own) {
            this.unit = unit;
            this.positions = positions;
            this.own = own;
        }

        private long line(long position) {
            return unit.getLineMap().getLineNumber(position);
        }

        private void forbid(int number, Tree tree) {
            rule(number, false, tree.getKind() + " in line " + line(positions.getStartPosition(unit, tree)));
        }

        @Override
        public Void visitClass(ClassTree tree, Void none) {
            classes++;
            rule(11, classes <= 12, "at most twelve classes");
            int fields = 0;
            for (Tree member : tree.getMembers()) {
                if (member instanceof VariableTree v) {
                    String modifiers = v.getModifiers().getFlags().toString();
                    boolean isStatic = modifiers.contains("static");
                    fields += isStatic ? 0 : 1;
                    rule(5, !isStatic || modifiers.contains("final"), v.getName() + " is static, not final");
                }
            }
            rule(11, fields <= 20, tree.getSimpleName() + " has " + fields + " fields");
            return super.visitClass(tree, none);
        }

        @Override
        public Void visitMethod(MethodTree tree, Void none) {
            String name = tree.getName().toString();
            long lines = line(positions.getEndPosition(unit, tree)) - line(positions.getStartPosition(unit, tree)) + 1;
            rule(11, lines <= 60, name + " has " + lines + " lines");
            rule(11, tree.getParameters().size() <= 7, name + " has too many parameters");
            boolean isPublic = tree.getModifiers().getFlags().toString().contains("public");
            for (String method : FACE) {
                boolean like = method.substring(method.indexOf(' ') + 1, method.indexOf('(')).equals(name);
                rule(1, isPublic || !like, name + " bears the name of a public method");
            }
            rule(6, !Set.of("equals", "hashCode", "toString").contains(name), name);
            return super.visitMethod(tree, none);
        }

        @Override
        public Void visitMemberSelect(MemberSelectTree tree, Void none) {
            String owner = tree.getExpression().toString();
            if (Set.of("Arrays", "System", "Thread", "Runtime").contains(owner)) {
                rule(4, LIBRARY.contains(tree.toString()), tree.toString());
            }
            if (Set.of("Math", "Integer", "Long").contains(owner)) {
                rule(4, !tree.toString().endsWith("Exact") && !tree.toString().equals("Math.random"), tree.toString());
            }
            return super.visitMemberSelect(tree, none);
        }

        @Override
        public Void visitVariable(VariableTree tree, Void none) {
            String type = String.valueOf(tree.getType());
            String single = type.replaceFirst("<.*>", "").replaceAll("(\\[\\])+$", "");
            boolean list = single.equals("List") || single.equals("ArrayList");
            rule(3, list || TYPES.contains(single) || own.contains(single), tree.getName() + " has the type " + type);
            rule(3, !type.endsWith("[][][]") && !(type.endsWith("[][]") && own.contains(single)), tree.getName() + " has the type " + type);
            return super.visitVariable(tree, none);
        }

        @Override
        public Void visitThrow(ThrowTree tree, Void none) {
            forbid(6, tree);
            return super.visitThrow(tree, none);
        }

        @Override
        public Void visitTry(TryTree tree, Void none) {
            forbid(6, tree);
            return super.visitTry(tree, none);
        }

        @Override
        public Void visitSynchronized(SynchronizedTree tree, Void none) {
            forbid(6, tree);
            return super.visitSynchronized(tree, none);
        }

        @Override
        public Void visitAssert(AssertTree tree, Void none) {
            forbid(6, tree);
            return super.visitAssert(tree, none);
        }

        @Override
        public Void visitLambdaExpression(LambdaExpressionTree tree, Void none) {
            forbid(2, tree);
            return super.visitLambdaExpression(tree, none);
        }

        @Override
        public Void visitMemberReference(MemberReferenceTree tree, Void none) {
            forbid(2, tree);
            return super.visitMemberReference(tree, none);
        }
    }
}
