import com.sun.source.tree.CatchTree;
import com.sun.source.tree.ClassTree;
import com.sun.source.tree.CompilationUnitTree;
import com.sun.source.tree.ImportTree;
import com.sun.source.tree.MemberSelectTree;
import com.sun.source.tree.MethodTree;
import com.sun.source.tree.NewClassTree;
import com.sun.source.tree.ThrowTree;
import com.sun.source.tree.Tree;
import com.sun.source.tree.VariableTree;
import com.sun.source.util.JavacTask;
import com.sun.source.util.SourcePositions;
import com.sun.source.util.TreeScanner;
import com.sun.source.util.Trees;
import java.io.File;
import java.io.IOException;
import java.lang.management.ManagementFactory;
import java.lang.reflect.Field;
import java.lang.reflect.Method;
import java.lang.reflect.Modifier;
import java.util.HashSet;
import java.util.List;
import java.util.Set;
import javax.lang.model.element.Name;
import javax.tools.JavaCompiler;
import javax.tools.StandardJavaFileManager;
import javax.tools.ToolProvider;

/** What of ../shared/LANGUAGE.md a program can look at: the face, the parts of Java, the sizes, and what a call makes. */
public final class LanguageTests {
    private static final String SOURCE = "src/main/java/PoisonPiles.java";
    private static final Set<String> FACE = Set.of(
        "int set(int,int)", "int pile(int,int,int)", "int passes(int,int)", "int begin()", "int take(int,int)", "int pass()",
        "int play(int)", "int ofPile(int,int)", "int ofPlayer(int,int)", "int count(int)", "int moves()", "int won()",
        "int winning()", "int value()", "int best()", "int grundy(int)", "int period(int)", "int drawn(int,int)",
        "int put(long)", "int wipe()", "int fault()", "int carryOut()", "int undo()", "int save(int)", "int restore(int)");
    private static final Set<String> CONSTANTS = Set.of(
        "NO_SUCH", "BAD_VALUE", "BAD_TEXT", "TOO_MANY", "NOT_POSSIBLE", "NONE", "TAKES", "BONUS");
    private static final Set<String> LIBRARY = Set.of("Arrays.fill", "Arrays.copyOf", "Arrays.copyOfRange", "System.arraycopy");
    private static final Set<String> IMPORTS = Set.of("java.util.Arrays", "java.util.ArrayList", "java.util.List",
        "java.util.Iterator", "java.util.NoSuchElementException");
    private static final Set<String> MADE = Set.of("Game", "History", "Slot", "Solver", "Sizes", "Pad", "Pile",
        "Player", "StringBuilder");
    // What the machine throws by itself is never caught; the others only the program throws.
    private static final Set<String> CAUGHT = Set.of("IllegalStateException", "IllegalArgumentException",
        "UnsupportedOperationException", "NoSuchElementException");
    private static final Set<Tree.Kind> BANNED = Set.of(
        Tree.Kind.LAMBDA_EXPRESSION, Tree.Kind.MEMBER_REFERENCE, Tree.Kind.SYNCHRONIZED, Tree.Kind.ASSERT);
    // Of 7.3 million elements in all for 512 calls, what some 100 calls may make, at the least size of an element.
    private static final long ROOM = 1_000_000;
    private static final Checks checks = new Checks();

    public static void main(String[] args) throws IOException {
        face();
        source();
        callsMakeLittle();
        checks.end();
    }

    private static void face() {
        Set<String> found = new HashSet<>();
        for (Method method : PoisonPiles.class.getDeclaredMethods()) {
            if (Modifier.isPublic(method.getModifiers())) found.add(signature(method));
            else checks.that("private: " + method, Modifier.isPrivate(method.getModifiers()) || method.isSynthetic());
        }
        checks.that("the methods of the face: " + found, found.equals(FACE));
        Set<String> constants = new HashSet<>();
        for (Field field : PoisonPiles.class.getDeclaredFields()) {
            if (Modifier.isPublic(field.getModifiers())) constants.add(field.getName());
            else checks.that("private: " + field, Modifier.isPrivate(field.getModifiers()));
            if (Modifier.isStatic(field.getModifiers()))
                checks.that("final: " + field, Modifier.isFinal(field.getModifiers()));
        }
        checks.that("the constants of the face: " + constants, constants.equals(CONSTANTS));
        checks.due("constructors", PoisonPiles.class.getDeclaredConstructors().length, 1);
        checks.due("public constructors", PoisonPiles.class.getConstructors().length, 1);
    }

    private static String signature(Method method) {
        StringBuilder text = new StringBuilder(method.getReturnType() + " " + method.getName() + "(");
        for (Class<?> type : method.getParameterTypes()) text.append(text.charAt(text.length() - 1) == '(' ? "" : ",").append(type);
        return text.append(")").toString();
    }

    private static void source() throws IOException {
        JavaCompiler compiler = ToolProvider.getSystemJavaCompiler();
        try (StandardJavaFileManager files = compiler.getStandardFileManager(null, null, null)) {
            JavacTask task = (JavacTask) compiler.getTask(null, files, null, List.of("-proc:none"), null,
                files.getJavaFileObjects(new File(SOURCE)));
            Iterable<? extends CompilationUnitTree> units = task.parse();
            task.analyze();
            for (CompilationUnitTree unit : units) {
                Look look = new Look(unit, Trees.instance(task).getSourcePositions());
                look.scan(unit, null);
                look.closing();
                callChains(new CallChains(Trees.instance(task), unit));
            }
        }
    }

    private static void callChains(CallChains chains) {
        checks.that("calls were looked at", chains.calls() > 100);
        checks.that("eight deep at the most: " + chains.longest(), chains.longest().size() <= 8);
        for (MethodTree method : chains.recursive()) {
            boolean carriesDepth = method.getParameters().stream().anyMatch(p -> p.getName().contentEquals("depth"));
            checks.that("carries the depth: " + method.getName(), carriesDepth);
        }
    }

    private static final class Look extends TreeScanner<Void, Void> {
        private final CompilationUnitTree unit;
        private final SourcePositions positions;
        private int classes;
        private int methods;
        private String inMethod = "";

        Look(CompilationUnitTree unit, SourcePositions positions) {
            this.unit = unit;
            this.positions = positions;
        }

        void closing() {
            checks.that("no package", unit.getPackageName() == null);
            checks.that("twelve classes at the most, not " + classes, classes <= 12);
            checks.that("methods were looked at", methods > 50);
        }

        @Override public Void scan(Tree tree, Void nothing) {
            if (tree != null) checks.that(tree.getKind() + " in " + inMethod + ": " + tree, !BANNED.contains(tree.getKind()));
            return super.scan(tree, nothing);
        }

        @Override public Void visitImport(ImportTree tree, Void nothing) {
            checks.that("import " + tree, IMPORTS.contains(tree.getQualifiedIdentifier().toString()));
            return null;
        }

        @Override public Void visitClass(ClassTree tree, Void nothing) {
            classes++;
            boolean outer = tree.getSimpleName().contentEquals("PoisonPiles");
            Set<javax.lang.model.element.Modifier> modifiers = tree.getModifiers().getFlags();
            checks.that(tree.getSimpleName() + " is static", outer || modifiers.contains(javax.lang.model.element.Modifier.STATIC));
            int fields = 0;
            for (Tree member : tree.getMembers()) {
                if (member instanceof VariableTree field) {
                    Set<javax.lang.model.element.Modifier> flags = field.getModifiers().getFlags();
                    boolean constant = flags.contains(javax.lang.model.element.Modifier.STATIC);
                    if (!constant) fields++;
                    else checks.that("final: " + field, flags.contains(javax.lang.model.element.Modifier.FINAL));
                } else if (member instanceof MethodTree method) {
                    checks.that(tree.getSimpleName() + "." + method.getName() + " bears a name of the face",
                        outer && isPublic(method) || !isOfFace(method.getName()));
                }
            }
            checks.that("twenty fields at the most in " + tree.getSimpleName(), fields <= 20);
            return super.visitClass(tree, nothing);
        }

        private static boolean isPublic(MethodTree method) {
            return method.getModifiers().getFlags().contains(javax.lang.model.element.Modifier.PUBLIC);
        }

        private static boolean isOfFace(Name name) {
            return FACE.stream().anyMatch(signature -> signature.startsWith("int " + name + "("));
        }

        @Override public Void visitNewClass(NewClassTree tree, Void nothing) {
            checks.that("made: " + tree, MADE.contains(tree.getIdentifier().toString()));
            return super.visitNewClass(tree, nothing);
        }

        @Override public Void visitMethod(MethodTree tree, Void nothing) {
            methods++;
            inMethod = tree.getName().toString();
            checks.that("seven parameters at the most: " + inMethod, tree.getParameters().size() <= 7);
            long first = unit.getLineMap().getLineNumber(positions.getStartPosition(unit, tree));
            long last = unit.getLineMap().getLineNumber(positions.getEndPosition(unit, tree));
            checks.that("sixty lines at the most: " + inMethod, last - first < 60);
            super.visitMethod(tree, nothing);
            inMethod = "";
            return null;
        }

        @Override public Void visitMemberSelect(MemberSelectTree tree, Void nothing) {
            String whole = tree.toString();
            if (whole.matches("(Math|Integer|Long)\\..*")) checks.that("library: " + whole, !whole.endsWith("Exact"));
            else if (whole.matches("(Arrays|Float|Double|Character|System|Object)\\..*"))
                checks.that("library: " + whole, LIBRARY.contains(whole));
            return super.visitMemberSelect(tree, nothing);
        }

        @Override public Void visitCatch(CatchTree tree, Void nothing) {
            String caught = tree.getParameter().getType().toString();
            checks.that("caught in " + inMethod + ": " + caught, CAUGHT.contains(caught));
            return super.visitCatch(tree, nothing);
        }

        @Override public Void visitThrow(ThrowTree tree, Void nothing) {
            checks.that("no throw in a constructor", !inMethod.equals("<init>"));
            return super.visitThrow(tree, nothing);
        }
    }

    /** All of a run's calls share one room. */
    private static void callsMakeLittle() {
        com.sun.management.ThreadMXBean bean = (com.sun.management.ThreadMXBean) ManagementFactory.getThreadMXBean();
        // The machine itself makes things when it first meets a piece of code, so the least of some rounds counts.
        long least = Long.MAX_VALUE;
        for (int round = 0; round < 5; round++) {
            PoisonPiles x = new PoisonPiles();
            long before = bean.getCurrentThreadAllocatedBytes();
            manyCalls(x);
            least = Math.min(least, bean.getCurrentThreadAllocatedBytes() - before);
        }
        checks.that("calls make little, not " + least + " bytes", least <= ROOM);
    }

    private static void manyCalls(PoisonPiles x) {
        x.set(0, 31);
        for (int i = 0; i < 5; i++) x.pile(5, i, i & 1);
        x.passes(2, 2);
        x.value();
        x.winning();
        x.won();
        x.best();
        x.drawn(200, 1);
        x.save(0);
        for (int i = 0; i < 9; i++) x.play(1);
        for (int what = 0; what < 11; what++) {
            x.count(what);
            x.ofPile(0, what);
            x.ofPlayer(0, what);
        }
        x.grundy(200);
        x.period(0);
        x.moves();
        x.put('+' << 8 | '1');
        x.fault();
        x.carryOut();
        x.put('p');
        x.carryOut();
        x.wipe();
        x.take(0, 1);
        x.pass();
        x.restore(0);
        x.undo();
        x.begin();
    }
}
