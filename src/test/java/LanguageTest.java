import com.sun.source.tree.AssertTree;
import com.sun.source.tree.ClassTree;
import com.sun.source.tree.CompilationUnitTree;
import com.sun.source.tree.ImportTree;
import com.sun.source.tree.LambdaExpressionTree;
import com.sun.source.tree.MemberReferenceTree;
import com.sun.source.tree.MethodTree;
import com.sun.source.tree.SynchronizedTree;
import com.sun.source.tree.ThrowTree;
import com.sun.source.tree.Tree;
import com.sun.source.tree.TryTree;
import com.sun.source.tree.VariableTree;
import com.sun.source.util.JavacTask;
import com.sun.source.util.SourcePositions;
import com.sun.source.util.TreeScanner;
import com.sun.source.util.Trees;
import java.io.IOException;
import java.lang.reflect.Constructor;
import java.lang.reflect.Method;
import java.lang.reflect.Modifier;
import java.nio.file.Path;
import java.util.List;
import java.util.Set;
import java.util.TreeSet;
import javax.lang.model.element.Name;
import javax.tools.JavaCompiler;
import javax.tools.StandardJavaFileManager;
import javax.tools.ToolProvider;

/** The face that the document prints, and those rules of LANGUAGE.md that can be seen from the source alone. */
public final class LanguageTest {
    private static final String[] FACE = {
        "int addClub(int,int,int) IllegalArgumentException IllegalStateException",
        "int addPlayer(int) IndexOutOfBoundsException IllegalStateException",
        "boolean setWindow(int,int) IllegalArgumentException",
        "int goOn(int) IllegalArgumentException IllegalStateException",
        "int sell(int,int,int) IndexOutOfBoundsException IllegalArgumentException UnsupportedOperationException",
        "int lend(int,int) IndexOutOfBoundsException IllegalArgumentException UnsupportedOperationException",
        "int callBack(int) IndexOutOfBoundsException UnsupportedOperationException",
        "boolean setDerby(int,int,boolean) IndexOutOfBoundsException IllegalArgumentException",
        "int plan(int) IllegalArgumentException IllegalStateException NoSuchElementException",
        "int putOff(int,int) IndexOutOfBoundsException IllegalArgumentException UnsupportedOperationException",
        "int fixture(int,char) IndexOutOfBoundsException IllegalArgumentException",
        "char stateOf(int) IndexOutOfBoundsException",
        "int name(int,boolean,int) IndexOutOfBoundsException UnsupportedOperationException IllegalArgumentException IllegalStateException",
        "int kickOff(int) IndexOutOfBoundsException UnsupportedOperationException IllegalStateException",
        "int goal(int) IndexOutOfBoundsException IllegalStateException UnsupportedOperationException",
        "int card(int,boolean) IndexOutOfBoundsException IllegalStateException UnsupportedOperationException",
        "int change(int,int) IndexOutOfBoundsException IllegalStateException UnsupportedOperationException",
        "int end() IllegalStateException",
        "int abandon(boolean) IllegalStateException",
        "boolean appeal(int,boolean) IndexOutOfBoundsException",
        "int wipe() IllegalStateException",
        "int ban(int) IndexOutOfBoundsException",
        "int yellows(int) IndexOutOfBoundsException",
        "boolean isGuilty(int,boolean) IndexOutOfBoundsException UnsupportedOperationException",
        "int resultOf(int) IndexOutOfBoundsException UnsupportedOperationException",
        "int takePoints(int,int) IndexOutOfBoundsException IllegalArgumentException",
        "boolean strike(int,boolean) IndexOutOfBoundsException IllegalStateException",
        "int clubAt(int,int) IllegalArgumentException IndexOutOfBoundsException",
        "int points(int) IndexOutOfBoundsException",
        "int divisionOf(int) IndexOutOfBoundsException",
        "int registered(int) IndexOutOfBoundsException",
        "int endSeason() IllegalStateException",
        "long money()",
        "float overShare() ArithmeticException",
        "double meanGoals() ArithmeticException",
        "boolean isSound()",
    };
    private static final Set<String> IMPORTS =
        Set.of("java.util.ArrayList", "java.util.Arrays", "java.util.List", "java.util.NoSuchElementException");
    private static final int MOST_LINES = 60;
    private static final int MOST_PARAMETERS = 7;
    private static final int MOST_CLASSES = 12;
    private static final int MOST_FIELDS = 20;

    private static int wrong = 0;

    public static void main(String[] args) throws IOException {
        checkFace();
        checkSource(Path.of("src/main/java/Goalmouth.java"));
        System.out.println(wrong == 0 ? "the face and the language are as due" : wrong + " faults");
        if (wrong != 0) {
            System.exit(1);
        }
    }

    private static void fault(String text) {
        wrong++;
        System.out.println(text);
    }

    private static void checkFace() {
        Class<?> face = Goalmouth.class;
        if (face.getModifiers() != (Modifier.PUBLIC | Modifier.FINAL)) {
            fault("the class is not just public and final");
        }
        Constructor<?>[] constructors = face.getDeclaredConstructors();
        if (constructors.length != 1 || constructors[0].getModifiers() != Modifier.PUBLIC
            || constructors[0].getParameterCount() != 0) {
            fault("the constructor is not the one of the document");
        }
        Set<String> got = new TreeSet<>();
        for (Method method : face.getDeclaredMethods()) {
            if (!Modifier.isPrivate(method.getModifiers()) && !method.isSynthetic()) {
                got.add(told(method));
            }
        }
        Set<String> due = new TreeSet<>(List.of(FACE));
        if (!got.equals(due)) {
            fault("the face is " + got + "\n, due is " + due);
        }
        for (java.lang.reflect.Field field : face.getDeclaredFields()) {
            if (!Modifier.isPrivate(field.getModifiers())) {
                fault("the field " + field.getName() + " is not private");
            }
        }
    }

    private static String told(Method method) {
        StringBuilder text = new StringBuilder(Modifier.toString(method.getModifiers()).replace("public", "").trim());
        text.append(method.getReturnType()).append(' ').append(method.getName()).append('(');
        for (int i = 0; i < method.getParameterCount(); i++) {
            text.append(i == 0 ? "" : ",").append(method.getParameterTypes()[i]);
        }
        text.append(')');
        for (Class<?> thrown : method.getExceptionTypes()) {
            text.append(' ').append(thrown.getSimpleName());
        }
        return text.toString();
    }

    private static void checkSource(Path path) throws IOException {
        JavaCompiler compiler = ToolProvider.getSystemJavaCompiler();
        try (StandardJavaFileManager files = compiler.getStandardFileManager(null, null, null)) {
            JavacTask task = (JavacTask) compiler.getTask(null, files, null, null, null, files.getJavaFileObjects(path));
            for (CompilationUnitTree unit : task.parse()) {
                Rules rules = new Rules(unit, Trees.instance(task).getSourcePositions());
                rules.scan(unit, null);
                if (rules.classes > MOST_CLASSES) {
                    fault("rule 11: " + rules.classes + " classes");
                }
            }
        }
    }

    private static final class Rules extends TreeScanner<Void, Void> {
        private final CompilationUnitTree unit;
        private final SourcePositions positions;
        private int classes = 0;
        private boolean isInConstructor = false;

        Rules(CompilationUnitTree unit, SourcePositions positions) {
            this.unit = unit;
            this.positions = positions;
        }

        private long line(long position) {
            return unit.getLineMap().getLineNumber(position);
        }

        private void bad(Tree tree, String text) {
            fault("line " + line(positions.getStartPosition(unit, tree)) + ": " + text);
        }

        @Override
        public Void visitImport(ImportTree tree, Void nothing) {
            if (!IMPORTS.contains(tree.getQualifiedIdentifier().toString())) {
                bad(tree, "rule 4: import of " + tree.getQualifiedIdentifier());
            }
            return null;
        }

        @Override
        public Void visitClass(ClassTree tree, Void nothing) {
            classes++;
            int fields = 0;
            for (Tree member : tree.getMembers()) {
                if (member instanceof VariableTree field) {
                    Set<javax.lang.model.element.Modifier> flags = field.getModifiers().getFlags();
                    boolean isStatic = flags.contains(javax.lang.model.element.Modifier.STATIC);
                    fields += isStatic ? 0 : 1;
                    if (isStatic && !flags.contains(javax.lang.model.element.Modifier.FINAL)) {
                        bad(field, "rule 5: a static field that is not final");
                    }
                }
            }
            if (fields > MOST_FIELDS) {
                bad(tree, "rule 11: " + fields + " fields");
            }
            return super.visitClass(tree, nothing);
        }

        @Override
        public Void visitMethod(MethodTree tree, Void nothing) {
            long lines = line(positions.getEndPosition(unit, tree)) - line(positions.getStartPosition(unit, tree)) + 1;
            if (lines > MOST_LINES || tree.getParameters().size() > MOST_PARAMETERS) {
                bad(tree, "rule 11: " + lines + " lines, " + tree.getParameters().size() + " parameters");
            }
            boolean isPublic = tree.getModifiers().getFlags().contains(javax.lang.model.element.Modifier.PUBLIC);
            if (!isPublic && isOfTheFace(tree.getName())) {
                bad(tree, "rule 1: a public method has the name " + tree.getName());
            }
            isInConstructor = tree.getReturnType() == null;
            super.visitMethod(tree, nothing);
            isInConstructor = false;
            return null;
        }

        private static boolean isOfTheFace(Name name) {
            for (String method : FACE) {
                if (method.contains(" " + name + "(")) {
                    return true;
                }
            }
            return Set.of("equals", "hashCode", "toString").contains(name.toString());
        }

        @Override
        public Void visitThrow(ThrowTree tree, Void nothing) {
            if (isInConstructor) {
                bad(tree, "rule 6: a throw in a constructor");
            }
            return super.visitThrow(tree, nothing);
        }

        @Override
        public Void visitTry(TryTree tree, Void nothing) {
            bad(tree, "a try: the program needs none");
            return null;
        }

        @Override
        public Void visitLambdaExpression(LambdaExpressionTree tree, Void nothing) {
            bad(tree, "rule 2: a lambda");
            return null;
        }

        @Override
        public Void visitMemberReference(MemberReferenceTree tree, Void nothing) {
            bad(tree, "rule 2: a method reference");
            return null;
        }

        @Override
        public Void visitSynchronized(SynchronizedTree tree, Void nothing) {
            bad(tree, "rule 6: synchronized");
            return null;
        }

        @Override
        public Void visitAssert(AssertTree tree, Void nothing) {
            bad(tree, "rule 6: assert");
            return null;
        }
    }
}
